/-! ===== the model's state: what its numbers are bounded by ===== -/
def mT (μ : Nat → Nat → Int32) : Nat := tn (μ 0 0)
def mN (μ : Nat → Nat → Int32) : Nat := tn (μ 0 1)
def mC (μ : Nat → Nat → Int32) : Nat := tn (μ 0 2)
def mS (μ : Nat → Nat → Int32) : Nat := tn (μ 1 0)
def mt (μ : Nat → Nat → Int32) (k : Nat) : Nat := tn (μ 0 (53 + 6 * k))
def mr (μ : Nat → Nat → Int32) (k : Nat) : Nat := tn (μ 0 (53 + 6 * k + 4))
def okM (μ : Nat → Nat → Int32) : Prop := (μ 0 0 = nI (mT μ) ∧ mT μ ≤ 6) ∧ (μ 0 2 = nI (mC μ) ∧ mC μ ≤ 6) ∧ (μ 0 1 = nI (mN μ) ∧ mN μ ≤ 60) ∧ (μ 1 0 = nI (mS μ) ∧ mS μ ≤ 5) ∧ 0 ≤ μ 0 6 ∧ (∀ k, k < mN μ → μ 0 (53 + 6 * k) = nI (mt μ k) ∧ mt μ k < 6) ∧ (∀ k, k < mN μ → μ 0 (53 + 6 * k + 3) = 1 → μ 0 (53 + 6 * k + 4) = nI (mr μ k) ∧ mr μ k < 8)
def okN (μ : Nat → Nat → Int32) : Prop := μ 0 1 = nI (mN μ) ∧ mN μ ≤ 60
theorem okM_b {μ : Nat → Nat → Int32} (h : okM μ) : mT μ ≤ 6 ∧ mC μ ≤ 6 ∧ mN μ ≤ 60 ∧ mS μ ≤ 5 := ⟨h.1.2, h.2.1.2, h.2.2.1.2, h.2.2.2.1.2⟩
theorem okM_0 {μ : Nat → Nat → Int32} (h : okM μ) : μ 0 0 = nI (mT μ) := h.1.1
theorem okM_2 {μ : Nat → Nat → Int32} (h : okM μ) : μ 0 2 = nI (mC μ) := h.2.1.1
theorem okM_1 {μ : Nat → Nat → Int32} (h : okM μ) : okN μ := h.2.2.1
theorem okM_s {μ : Nat → Nat → Int32} (h : okM μ) : μ 1 0 = nI (mS μ) := h.2.2.2.1.1
theorem okM_6 {μ : Nat → Nat → Int32} (h : okM μ) : 0 ≤ μ 0 6 := h.2.2.2.2.1
theorem okM_t {μ : Nat → Nat → Int32} (h : okM μ) {k : Nat} (hk : k < mN μ) : μ 0 (53 + 6 * k) = nI (mt μ k) ∧ mt μ k < 6 := h.2.2.2.2.2.1 k hk
theorem okM_r {μ : Nat → Nat → Int32} (h : okM μ) {k : Nat} (hk : k < mN μ) (h1 : μ 0 (53 + 6 * k + 3) = 1) : μ 0 (53 + 6 * k + 4) = nI (mr μ k) ∧ mr μ k < 8 := h.2.2.2.2.2.2 k hk h1
theorem okM_of {μ μ' : Nat → Nat → Int32} (h : okM μ) (e0 : μ' 0 0 = μ 0 0) (e1 : μ' 0 1 = μ 0 1) (e2 : μ' 0 2 = μ 0 2) (e6 : μ' 0 6 = μ 0 6) (es : μ' 1 0 = nI (mS μ') ∧ mS μ' ≤ 5)
    (et : ∀ k, k < mN μ → μ' 0 (53 + 6 * k) = μ 0 (53 + 6 * k)) (er : ∀ k, k < mN μ → μ' 0 (53 + 6 * k + 3) = 1 → μ 0 (53 + 6 * k + 3) = 1 ∧ μ' 0 (53 + 6 * k + 4) = μ 0 (53 + 6 * k + 4)) : okM μ' := by
  have n1 : mN μ' = mN μ := congrArg tn e1
  refine ⟨⟨e0.trans (h.1.1.trans (congrArg nI (congrArg tn e0).symm)), by rw [show mT μ' = mT μ from congrArg tn e0]; exact h.1.2⟩, ⟨e2.trans (h.2.1.1.trans (congrArg nI (congrArg tn e2).symm)), by rw [show mC μ' = mC μ from congrArg tn e2]; exact h.2.1.2⟩, ⟨e1.trans (h.2.2.1.1.trans (congrArg nI n1.symm)), by rw [n1]; exact h.2.2.1.2⟩, es, by rw [e6]; exact okM_6 h, fun k hk => ?_, fun k hk h1 => ?_⟩
  · rw [n1] at hk
    have := okM_t h hk
    unfold mt
    rw [et k hk]; exact this
  · rw [n1] at hk
    obtain ⟨q1, q2⟩ := er k hk h1
    have := okM_r h hk q1
    unfold mr
    rw [q2]; exact this

/-! X4.in -/
def f_X4_in (x : Int32) (y : Int32) (z : Int32) : Int32 := (if x < y then 0 else (if z < x then 0 else 1))
abbrev rm_X4_in : Room := { frames := 0, cells := 0, slots := 0, locals := 0 }
set_option maxRecDepth 100000 in
theorem c_X4_in (l : Launch) (x : Int32) (y : Int32) (z : Int32) :
    Met l yX4_in (Cond.code yX4_in cX4_in 3 (some .boolean) :: W0) rm_X4_in (va_Pc [.int x, .int y, .int z] (fun _ => True)) (vp_Si (fun r => r = f_X4_in x y z)) 0 0 (fun _ => False) := by
  refine st_gen (cc := cX4_in) (maxL := 3) (ret := some .boolean) (own := RX4) (by decide) rfl (Nat.le_of_ble_eq_true rfl) ?_
  intro p e s m below meth c ls C hPre hl
  obtain ⟨hx, hb, hr, hml, hown, hts, hlk⟩ := C
  have hl : lv_has ls 3 [(0, .int (x)), (1, .int (y)), (2, .int (z))] := hl
  refine lv_iload_n hx hb dX4_in_0 rfl (lv_at hl 0 rfl) ?_
  refine lv_iload_n hx hb dX4_in_1 rfl (lv_at hl 1 rfl) ?_
  refine lv_icmp_lt (tgt := 14) hx hb dX4_in_2 (by decide) (fun c_2 => ?_) (fun c_2 => ?_)
  · refine lv_iconst (v := 0) hx hb dX4_in_14 (by decide) ?_
    exact fin_z hx hb hr hlk (Or.inl rfl) (br_p c_2 rfl) dX4_in_15
  refine lv_iload_n hx hb dX4_in_5 rfl (lv_at hl 0 rfl) ?_
  refine lv_iload_n hx hb dX4_in_6 rfl (lv_at hl 2 rfl) ?_
  refine lv_icmp_gt (tgt := 14) hx hb dX4_in_7 (by decide) (fun c_7 => ?_) (fun c_7 => ?_)
  · refine lv_iconst (v := 0) hx hb dX4_in_14 (by decide) ?_
    exact fin_z hx hb hr hlk (Or.inl rfl) (br_n c_2 (br_p c_7 rfl)) dX4_in_15
  refine lv_iconst (v := 1) hx hb dX4_in_10 (by decide) ?_
  refine lv_goto (tgt := 15) hx hb dX4_in_11 (by decide) ?_
  exact fin_z hx hb hr hlk (Or.inr rfl) (br_n c_2 (br_n c_7 rfl)) dX4_in_15
theorem kS_X4_in {R : Room} {s : State} {args : Array Value} {own : String} {idx : Nat} {c0 : Cond} (hts : ∀ w ∈ c0 :: W0, w.before args s = true) (hl : Cond.methodLink own idx yX4_in ∈ W0) (hR : rm_X4_in.frames + 1 ≤ R.frames ∧ 8 + (3 + 11) + rm_X4_in.locals ≤ R.locals) : CallB R s args own idx yX4_in cX4_in 3 (some .boolean) (Cond.code yX4_in cX4_in 3 (some .boolean) :: W0) rm_X4_in 0 0 3 ∧ (Cond.static yX4_in).before args s = true := va_cwS 3 hts (gdS hl mst_yX4_in mini_X4 mc_yX4_in) rfl rfl rfl (by decide +kernel) hR

theorem z_X4_in {x : Int32} {y : Int32} {z : Int32} : f_X4_in x y z = 0 ∨ f_X4_in x y z = 1 := by
  unfold f_X4_in
  (repeat' split) <;> first | exact Or.inl rfl | exact Or.inr rfl

theorem in_nz {x y z : Int32} (h : ¬ f_X4_in x y z = 0) : y ≤ x ∧ x ≤ z := by
  unfold f_X4_in at h
  split at h
  · exact absurd rfl h
  · split at h
    · exact absurd rfl h
    · exact ⟨Int32.not_lt.mp (by with_reducible assumption), Int32.not_lt.mp (by with_reducible assumption)⟩
theorem inN (n : Nat) {x y z : Int32} (h : ¬ f_X4_in x y z = 0) (hy : 0 ≤ y) (hz : z = nI n) (hn : n < 2 ^ 31) : tn x ≤ n ∧ x = nI (tn x) := by
  have q := in_nz h
  have h0 : 0 ≤ x := Int32.le_trans hy q.1
  exact ⟨tn_le h0 (hz ▸ q.2) hn, tn_pos h0⟩

/-! X4.lesser -/
def f_X4_lesser (x : Int32) (y : Int32) : Int32 := (if y ≤ x then y else x)
abbrev rm_X4_lesser : Room := { frames := 0, cells := 0, slots := 0, locals := 0 }
set_option maxRecDepth 100000 in
theorem c_X4_lesser (l : Launch) (x : Int32) (y : Int32) :
    Met l yX4_lesser (Cond.code yX4_lesser cX4_lesser 2 (some .int) :: W0) rm_X4_lesser (va_Pc [.int x, .int y] (fun _ => True)) (vp_Si (fun r => r = f_X4_lesser x y)) 0 0 (fun _ => False) := by
  refine st_gen (cc := cX4_lesser) (maxL := 2) (ret := some .int) (own := RX4) (by decide) rfl (Nat.le_of_ble_eq_true rfl) ?_
  intro p e s m below meth c ls C hPre hl
  obtain ⟨hx, hb, hr, hml, hown, hts, hlk⟩ := C
  have hl : lv_has ls 2 [(0, .int (x)), (1, .int (y))] := hl
  refine lv_iload_n hx hb dX4_lesser_0 rfl (lv_at hl 0 rfl) ?_
  refine lv_iload_n hx hb dX4_lesser_1 rfl (lv_at hl 1 rfl) ?_
  refine lv_icmp_ge (tgt := 9) hx hb dX4_lesser_2 (by decide) (fun c_2 => ?_) (fun c_2 => ?_)
  · refine lv_iload_n hx hb dX4_lesser_9 rfl (lv_at hl 1 rfl) ?_
    exact fin_i hx hb hr hlk (br_p c_2 rfl) dX4_lesser_10
  refine lv_iload_n hx hb dX4_lesser_5 rfl (lv_at hl 0 rfl) ?_
  refine lv_goto (tgt := 10) hx hb dX4_lesser_6 (by decide) ?_
  exact fin_i hx hb hr hlk (br_n c_2 rfl) dX4_lesser_10
theorem kS_X4_lesser {R : Room} {s : State} {args : Array Value} {own : String} {idx : Nat} {c0 : Cond} (hts : ∀ w ∈ c0 :: W0, w.before args s = true) (hl : Cond.methodLink own idx yX4_lesser ∈ W0) (hR : rm_X4_lesser.frames + 1 ≤ R.frames ∧ 8 + (2 + 11) + rm_X4_lesser.locals ≤ R.locals) : CallB R s args own idx yX4_lesser cX4_lesser 2 (some .int) (Cond.code yX4_lesser cX4_lesser 2 (some .int) :: W0) rm_X4_lesser 0 0 2 ∧ (Cond.static yX4_lesser).before args s = true := va_cwS 2 hts (gdS hl mst_yX4_lesser mini_X4 mc_yX4_lesser) rfl rfl rfl (by decide +kernel) hR

/-! X4.copies -/
def g_X4_copies_2 (μ : Nat → Nat → Int32) (fa : Nat) (tb : Nat) : Nat → (Nat) → (Nat → Nat → Int32) → (Nat → Nat → Int32)
  | 0, k, ω => ω
  | fu + 1, k, ω => (if 413 ≤ k then ω else g_X4_copies_2 μ fa tb fu (k + 1) (shU ω 0 ((413 * tb) + k) (ω 0 ((413 * fa) + k))))
def s_X4_copies (μ : Nat → Nat → Int32) (fa : Nat) (tb : Nat) : Nat → Nat → Int32 := (g_X4_copies_2 μ fa tb 414 0 μ)
abbrev rm_X4_copies : Room := { frames := 0, cells := 0, slots := 0, locals := 0 }
set_option maxRecDepth 100000 in
theorem c_X4_copies (l : Launch) (D : va_G) (cI : ClassId) (o : Nat) (a : Nat → Nat) (μ : Nat → Nat → Int32) (hh : Int64) (x : Int32) (fa : Nat) (hx : x = nI fa) (y : Int32) (tb : Nat) (hy : y = nI tb) (hfa : fa ≤ 6) (htb : tb ≤ 6) :
    Met l yX4_copies (Cond.code yX4_copies cX4_copies 4 (none) :: W0) rm_X4_copies (va_Pc [.ref o, .int x, .int y] (moM D cI o a μ hh)) (moV D cI o a hh (s_X4_copies μ fa tb)) 0 0 (moA o a) := by
  subst hx
  subst hy
  refine st_gen (cc := cX4_copies) (maxL := 4) (ret := none) (own := RX4) (by decide) rfl (Nat.le_of_ble_eq_true rfl) ?_
  intro p e s m below meth c ls C hPre hl
  obtain ⟨hx, hb, hr, hml, hown, hts, hlk⟩ := C
  obtain ⟨⟨hP, hK⟩, hD⟩ := hPre
  have hS : va_S (moA o a) s.heap s.heap [] := va_S.rf
  have hl : lv_has ls 4 [(0, .ref (o)), (1, .int (nI fa)), (2, .int (nI tb))] := hl
  refine lv_iconst (v := 0) hx hb dX4_copies_0 (by decide) ?_
  refine lv_istore_n (lv' := [(3, .int (0)), (0, .ref (o)), (1, .int (nI fa)), (2, .int (nI tb))]) hx hb dX4_copies_1 rfl hl (by decide) rfl (fun ls hl => ?_)
  have K_39 : ∀ (H : Heap) (locs : List Loc), va_P D vwCl (moW cI o a (g_X4_copies_2 μ fa tb 414 0 μ) hh) H → va_S (moA o a) s.heap H locs → ∀ ls, lv_has ls 4 [(0, .ref (o)), (1, .int (nI fa)), (2, .int (nI tb))] → W p l e rm_X4_copies s m (([.ref (o), .int (nI fa), .int (nI tb)] : List Value).toArray) below meth c H locs 0 0 (MQ below (moV D cI o a hh (s_X4_copies μ fa tb)) ([.ref (o), .int (nI fa), .int (nI tb)] : List Value).toArray s 0 0 (moA o a)) (F0 m 39 ls []) := by
    intro H locs hP hS ls hl
    exact mo_finV hx hb hr hlk hK hP hS rfl dX4_copies_39
  have L_2 : ∀ (fu : Nat) (k : Nat) (ω : Nat → Nat → Int32), 413 - k < fu → k ≤ 413 → g_X4_copies_2 μ fa tb fu k ω = g_X4_copies_2 μ fa tb 414 0 μ → ∀ (H : Heap) (locs : List Loc), va_P D vwCl (moW cI o a ω hh) H → va_S (moA o a) s.heap H locs → ∀ ls, lv_has ls 4 [(0, .ref (o)), (1, .int (nI fa)), (2, .int (nI tb)), (3, .int (nI k))] → W p l e rm_X4_copies s m (([.ref (o), .int (nI fa), .int (nI tb)] : List Value).toArray) below meth c H locs 0 0 (MQ below (moV D cI o a hh (s_X4_copies μ fa tb)) ([.ref (o), .int (nI fa), .int (nI tb)] : List Value).toArray s 0 0 (moA o a)) (F0 m 2 ls []) := by
    intro fu
    induction fu with
    | zero => intro k ω hm; exact absurd hm (Nat.not_lt_zero _)
    | succ fu ih =>
      intro k ω hm hk4 hg_2 H locs hP hS ls hl
      refine lv_iload_n hx hb dX4_copies_2 rfl (lv_at hl 3 rfl) ?_
      refine lv_sipush (v := 413) hx hb dX4_copies_3 (by decide) ?_
      refine lv_icmp_geN (k) (413) hx hb rfl rfl (by omega) (by omega) (tgt := 39) dX4_copies_6 (by decide) (fun c_6 => ?_) (fun c_6 => ?_)
      · have ex : ω = g_X4_copies_2 μ fa tb 414 0 μ := ((br_p c_6 rfl) : ω = g_X4_copies_2 μ fa tb (fu + 1) k ω).trans hg_2
        exact K_39 _ _ (by rw [← ex]; exact hP) hS ls (lv_sub hl [0, 1, 2] rfl)
      refine lv_aload_n hx hb dX4_copies_9 rfl (lv_at hl 0 rfl) ?_
      refine mo_g0 hx hb hts hown hK hP dX4_copies_10 ?_
      refine lv_sipush (v := 413) hx hb dX4_copies_13 (by decide) ?_
      refine lv_iload_n hx hb dX4_copies_16 rfl (lv_at hl 2 rfl) ?_
      refine lv_imulN (x := 413) (y := tb) hx hb rfl rfl dX4_copies_17 ?_
      refine lv_iload_n hx hb dX4_copies_18 rfl (lv_at hl 3 rfl) ?_
      refine lv_iaddN (x := (413 * tb)) (y := k) hx hb rfl rfl dX4_copies_19 ?_
      refine lv_aload_n hx hb dX4_copies_20 rfl (lv_at hl 0 rfl) ?_
      refine mo_g0 hx hb hts hown hK hP dX4_copies_21 ?_
      refine lv_sipush (v := 413) hx hb dX4_copies_24 (by decide) ?_
      refine lv_iload_n hx hb dX4_copies_27 rfl (lv_at hl 1 rfl) ?_
      refine lv_imulN (x := 413) (y := fa) hx hb rfl rfl dX4_copies_28 ?_
      refine lv_iload_n hx hb dX4_copies_29 rfl (lv_at hl 3 rfl) ?_
      refine lv_iaddN (x := (413 * fa)) (y := k) hx hb rfl rfl dX4_copies_30 ?_
      refine mo_r0 hx hb hK hP (((413 * fa) + k)) rfl (by omega) (v := ω 0 ((413 * fa) + k)) rfl dX4_copies_31 ?_
      refine mo_w0 hx hb hK hP hD hS (((413 * tb) + k)) rfl (by omega) dX4_copies_32 (fun H locs hP hS => ?_)
      refine lv_iinc (v := nI (k + 1)) (lv' := [(3, .int (nI (k + 1))), (0, .ref (o)), (1, .int (nI fa)), (2, .int (nI tb))]) hx hb dX4_copies_33 hl (k := 3) rfl (nI_c1 _) (by decide) rfl (fun ls hl => ?_)
      refine lv_goto (tgt := 2) hx hb dX4_copies_36 (by decide) ?_
      exact ih (k + 1) (shU ω 0 ((413 * tb) + k) (ω 0 ((413 * fa) + k))) (by omega) (by omega) (((br_n c_6 rfl) : g_X4_copies_2 μ fa tb fu (k + 1) (shU ω 0 ((413 * tb) + k) (ω 0 ((413 * fa) + k))) = g_X4_copies_2 μ fa tb (fu + 1) k ω).trans hg_2) _ _ hP hS ls (lv_sub hl [1, 2, 3, 0] rfl)
  exact L_2 414 0 μ (by decide) (by decide) rfl _ _ hP hS ls (lv_sub hl [1, 2, 3, 0] rfl)
theorem kV_X4_copies {R : Room} {s : State} {args : Array Value} {own : String} {idx : Nat} {c0 : Cond} (hts : ∀ w ∈ c0 :: W0, w.before args s = true) (hl : Cond.methodLink own idx yX4_copies ∈ W0) (hR : rm_X4_copies.frames + 1 ≤ R.frames ∧ 8 + (4 + 11) + rm_X4_copies.locals ≤ R.locals) : CallW R s args own RX4 idx yX4_copies cX4_copies 4 (none) (Cond.code yX4_copies cX4_copies 4 (none) :: W0) rm_X4_copies 0 0 2 := cwV 2 hts (gdV hl mi_yX4_copies ms_yX4_copies mini_X4 mc_yX4_copies) rfl rfl rfl (by decide +kernel) hR

theorem copies_g {μ : Nat → Nat → Int32} {fa tb : Nat} (hne : fa ≠ tb) : ∀ (fu k : Nat) (ω : Nat → Nat → Int32), 413 - k < fu → k ≤ 413 → ∀ j, g_X4_copies_2 μ fa tb fu k ω 0 j = if 413 * tb + k ≤ j ∧ j < 413 * tb + 413 then ω 0 (413 * fa + (j - 413 * tb)) else ω 0 j := by
  intro fu
  induction fu with
  | zero => intro k ω h; exact absurd h (Nat.not_lt_zero _)
  | succ fu ih =>
    intro k ω h hk j
    rw [g_X4_copies_2]
    split
    · rw [if_neg (by omega)]
    · rw [ih _ _ (by omega) (by omega)]
      by_cases h1 : 413 * tb + (k + 1) ≤ j ∧ j < 413 * tb + 413
      · rw [if_pos h1, if_pos (by omega), shU_ne (by omega)]
      · rw [if_neg h1]
        by_cases h2 : j = 413 * tb + k
        · subst h2
          rw [if_pos (by omega), shU_eq, Nat.add_sub_cancel_left]
        · rw [if_neg (by omega), shU_ne h2]
theorem copies_f {μ : Nat → Nat → Int32} {fa tb f : Nat} (hf : f ≠ 0) : ∀ (fu k : Nat) (ω : Nat → Nat → Int32), g_X4_copies_2 μ fa tb fu k ω f = ω f := by
  intro fu
  induction fu with
  | zero => intro k ω; rfl
  | succ fu ih =>
    intro k ω
    rw [g_X4_copies_2]
    split
    · rfl
    · rw [ih, shU_f hf]
theorem copies_at {μ : Nat → Nat → Int32} {fa tb : Nat} (hne : fa ≠ tb) (j : Nat) : s_X4_copies μ fa tb 0 j = if 413 * tb ≤ j ∧ j < 413 * tb + 413 then μ 0 (413 * fa + (j - 413 * tb)) else μ 0 j := copies_g hne 414 0 μ (by omega) (by omega) j
theorem copies_o {μ : Nat → Nat → Int32} {fa tb f : Nat} (hf : f ≠ 0) : s_X4_copies μ fa tb f = μ f := copies_f hf 414 0 μ

/-! X4.saves -/
def g_X4_saves_2 (μ : Nat → Nat → Int32) : Nat → (Nat) → (Nat → Nat → Int32) → (Nat → Nat → Int32)
  | 0, k, ω => ω
  | fu + 1, k, ω => (if 5 ≤ k then ω else (if (ω 1 0) = 5 then g_X4_saves_2 μ fu (k + 1) (s_X4_copies ω (k + 1) k) else ω))
def s_X4_saves (μ : Nat → Nat → Int32) : Nat → Nat → Int32 := (if ((g_X4_saves_2 μ 5 1 μ) 1 0) = 5 then (s_X4_copies (shS (shS (g_X4_saves_2 μ 5 1 μ) 1 (((g_X4_saves_2 μ 5 1 μ) 1 0) - 1)) 1 ((((g_X4_saves_2 μ 5 1 μ) 1 0) - 1) + 1)) 0 5) else (s_X4_copies (shS (shS (g_X4_saves_2 μ 5 1 μ) 1 (((g_X4_saves_2 μ 5 1 μ) 1 0) - 0)) 1 ((((g_X4_saves_2 μ 5 1 μ) 1 0) - 0) + 1)) 0 (mS μ + 1)))
abbrev rm_X4_saves : Room := { frames := 1, cells := 0, slots := 0, locals := 23 }
theorem saves_g {μ : Nat → Nat → Int32} {f : Nat} (hf : f ≠ 0) : ∀ (fu k : Nat) (ω : Nat → Nat → Int32), g_X4_saves_2 μ fu k ω f = ω f := by
  intro fu
  induction fu with
  | zero => intro k ω; rfl
  | succ fu ih =>
    intro k ω
    rw [g_X4_saves_2]
    (repeat' split) <;> first | rfl | (rw [ih, copies_o hf])
theorem saves_g0 {μ : Nat → Nat → Int32} : ∀ (fu k : Nat) (ω : Nat → Nat → Int32), 1 ≤ k → ∀ j, j < 413 → g_X4_saves_2 μ fu k ω 0 j = ω 0 j := by
  intro fu
  induction fu with
  | zero => intro k ω _ j _; rfl
  | succ fu ih =>
    intro k ω hk j hj
    rw [g_X4_saves_2]
    (repeat' split) <;> first | rfl | (rw [ih _ _ (by omega) j hj, copies_at (by omega), if_neg (by omega)])
set_option maxRecDepth 100000 in
theorem c_X4_saves (l : Launch) (D : va_G) (cI : ClassId) (o : Nat) (a : Nat → Nat) (μ : Nat → Nat → Int32) (hh : Int64) (hok : okM μ) :
    Met l yX4_saves (Cond.code yX4_saves cX4_saves 2 (none) :: W0) rm_X4_saves (va_Pc [.ref o] (moM D cI o a μ hh)) (moV D cI o a hh (s_X4_saves μ)) 0 0 (moA o a) := by
  refine st_gen (cc := cX4_saves) (maxL := 2) (ret := none) (own := RX4) (by decide) rfl (Nat.le_of_ble_eq_true rfl) ?_
  intro p e s m below meth c ls C hPre hl
  obtain ⟨hx, hb, hr, hml, hown, hts, hlk⟩ := C
  obtain ⟨⟨hP, hK⟩, hD⟩ := hPre
  have hS : va_S (moA o a) s.heap s.heap [] := va_S.rf
  have hl : lv_has ls 2 [(0, .ref (o))] := hl
  obtain ⟨hT6, hC6, hN6, hS5⟩ := okM_b hok
  refine lv_iconst (v := 1) hx hb dX4_saves_0 (by decide) ?_
  refine lv_istore_n (lv' := [(1, .int (1)), (0, .ref (o))]) hx hb dX4_saves_1 rfl hl (by decide) rfl (fun ls hl => ?_)
  have K_29 : ∀ (H : Heap) (locs : List Loc), va_P D vwCl (moW cI o a (g_X4_saves_2 μ 5 1 μ) hh) H → va_S (moA o a) s.heap H locs → ∀ ls, lv_has ls 2 [(0, .ref (o))] → W p l e rm_X4_saves s m (([.ref (o)] : List Value).toArray) below meth c H locs 0 0 (MQ below (moV D cI o a hh (s_X4_saves μ)) ([.ref (o)] : List Value).toArray s 0 0 (moA o a)) (F0 m 29 ls []) := by
    intro H locs hP hS ls hl
    have hG : (g_X4_saves_2 μ 5 1 μ) 1 0 = μ 1 0 := by rw [saves_g (by decide)]
    refine lv_aload_n hx hb dX4_saves_29 rfl (lv_at hl 0 rfl) ?_
    refine lv_dup hx hb dX4_saves_30 rfl ?_
    refine mo_g1 hx hb hts hown hK hP (v := (g_X4_saves_2 μ 5 1 μ) 1 0) rfl dX4_saves_31 ?_
    refine lv_aload_n hx hb dX4_saves_34 rfl (lv_at hl 0 rfl) ?_
    refine mo_g1 hx hb hts hown hK hP (v := (g_X4_saves_2 μ 5 1 μ) 1 0) rfl dX4_saves_35 ?_
    refine lv_iconst (v := 5) hx hb dX4_saves_38 (by decide) ?_
    refine lv_icmp_ne (tgt := 46) hx hb dX4_saves_39 (by decide) (fun c_39 => ?_) (fun c_39 => ?_)
    · refine lv_iconst (v := 0) hx hb dX4_saves_46 (by decide) ?_
      refine lv_isub hx hb dX4_saves_47 ?_
      refine mo_p1 hx hb hts hown hK hP hD hS dX4_saves_48 (fun H locs hP hS => ?_)
      refine lv_aload_n hx hb dX4_saves_51 rfl (lv_at hl 0 rfl) ?_
      refine lv_dup hx hb dX4_saves_52 rfl ?_
      refine mo_g1 hx hb hts hown hK hP (v := ((g_X4_saves_2 μ 5 1 μ) 1 0) - 0) shS_eq dX4_saves_53 ?_
      refine lv_iconst (v := 1) hx hb dX4_saves_56 (by decide) ?_
      refine lv_iadd hx hb dX4_saves_57 ?_
      refine mo_p1 hx hb hts hown hK hP hD hS dX4_saves_58 (fun H locs hP hS => ?_)
      have hgs : ((g_X4_saves_2 μ 5 1 μ) 1 0 - 0) + 1 = nI (mS μ + 1) := by rw [hG, okM_s hok, Int32.sub_zero, nI_1]
      refine lv_aload_n hx hb dX4_saves_61 rfl (lv_at hl 0 rfl) ?_
      refine lv_iconst (v := 0) hx hb dX4_saves_62 (by decide) ?_
      refine lv_aload_n hx hb dX4_saves_63 rfl (lv_at hl 0 rfl) ?_
      refine mo_g1 hx hb hts hown hK hP (v := (((g_X4_saves_2 μ 5 1 μ) 1 0) - 0) + 1) shS_eq dX4_saves_64 ?_
      refine mo_callV (rest := []) hx hb hml hown hts hK hP hD hS (c_X4_copies l D cI o a (shS (shS (g_X4_saves_2 μ 5 1 μ) 1 (((g_X4_saves_2 μ 5 1 μ) 1 0) - 0)) 1 ((((g_X4_saves_2 μ 5 1 μ) 1 0) - 0) + 1)) hh 0 0 rfl ((((g_X4_saves_2 μ 5 1 μ) 1 0) - 0) + 1) (mS μ + 1) hgs (by first | with_reducible assumption | omega) (by first | with_reducible assumption | omega)) (kV_X4_copies hts ml_X4_26 ⟨(Nat.le_of_ble_eq_true rfl), (Nat.le_of_ble_eq_true rfl)⟩) rfl hl.1 rfl (Nat.le_of_ble_eq_true rfl) dX4_saves_67 (Nat.zero_le _) (Nat.zero_le _) (fun H locs hP hS => ?_)
      exact mo_finV hx hb hr hlk hK hP hS (br_n c_39 rfl) dX4_saves_70
    refine lv_iconst (v := 1) hx hb dX4_saves_42 (by decide) ?_
    refine lv_goto (tgt := 47) hx hb dX4_saves_43 (by decide) ?_
    refine lv_isub hx hb dX4_saves_47 ?_
    refine mo_p1 hx hb hts hown hK hP hD hS dX4_saves_48 (fun H locs hP hS => ?_)
    refine lv_aload_n hx hb dX4_saves_51 rfl (lv_at hl 0 rfl) ?_
    refine lv_dup hx hb dX4_saves_52 rfl ?_
    refine mo_g1 hx hb hts hown hK hP (v := ((g_X4_saves_2 μ 5 1 μ) 1 0) - 1) shS_eq dX4_saves_53 ?_
    refine lv_iconst (v := 1) hx hb dX4_saves_56 (by decide) ?_
    refine lv_iadd hx hb dX4_saves_57 ?_
    refine mo_p1 hx hb hts hown hK hP hD hS dX4_saves_58 (fun H locs hP hS => ?_)
    have hg5 : ((g_X4_saves_2 μ 5 1 μ) 1 0 - 1) + 1 = nI 5 := by rw [c_39]; decide
    refine lv_aload_n hx hb dX4_saves_61 rfl (lv_at hl 0 rfl) ?_
    refine lv_iconst (v := 0) hx hb dX4_saves_62 (by decide) ?_
    refine lv_aload_n hx hb dX4_saves_63 rfl (lv_at hl 0 rfl) ?_
    refine mo_g1 hx hb hts hown hK hP (v := (((g_X4_saves_2 μ 5 1 μ) 1 0) - 1) + 1) shS_eq dX4_saves_64 ?_
    refine mo_callV (rest := []) hx hb hml hown hts hK hP hD hS (c_X4_copies l D cI o a (shS (shS (g_X4_saves_2 μ 5 1 μ) 1 (((g_X4_saves_2 μ 5 1 μ) 1 0) - 1)) 1 ((((g_X4_saves_2 μ 5 1 μ) 1 0) - 1) + 1)) hh 0 0 rfl ((((g_X4_saves_2 μ 5 1 μ) 1 0) - 1) + 1) 5 hg5 (by first | with_reducible assumption | omega) (by first | with_reducible assumption | omega)) (kV_X4_copies hts ml_X4_26 ⟨(Nat.le_of_ble_eq_true rfl), (Nat.le_of_ble_eq_true rfl)⟩) rfl hl.1 rfl (Nat.le_of_ble_eq_true rfl) dX4_saves_67 (Nat.zero_le _) (Nat.zero_le _) (fun H locs hP hS => ?_)
    exact mo_finV hx hb hr hlk hK hP hS (br_p c_39 rfl) dX4_saves_70
  have L_2 : ∀ (fu : Nat) (k : Nat) (ω : Nat → Nat → Int32), 5 - k < fu → k ≤ 5 → 1 ≤ k → g_X4_saves_2 μ fu k ω = g_X4_saves_2 μ 5 1 μ → ∀ (H : Heap) (locs : List Loc), va_P D vwCl (moW cI o a ω hh) H → va_S (moA o a) s.heap H locs → ∀ ls, lv_has ls 2 [(0, .ref (o)), (1, .int (nI k))] → W p l e rm_X4_saves s m (([.ref (o)] : List Value).toArray) below meth c H locs 0 0 (MQ below (moV D cI o a hh (s_X4_saves μ)) ([.ref (o)] : List Value).toArray s 0 0 (moA o a)) (F0 m 2 ls []) := by
    intro fu
    induction fu with
    | zero => intro k ω hm; exact absurd hm (Nat.not_lt_zero _)
    | succ fu ih =>
      intro k ω hm hk5 hk1 hg_2 H locs hP hS ls hl
      refine lv_iload_n hx hb dX4_saves_2 rfl (lv_at hl 1 rfl) ?_
      refine lv_iconst (v := 5) hx hb dX4_saves_3 (by decide) ?_
      refine lv_icmp_geN (k) (5) hx hb rfl rfl (by omega) (by omega) (tgt := 29) dX4_saves_4 (by decide) (fun c_4 => ?_) (fun c_4 => ?_)
      · have ex : ω = g_X4_saves_2 μ 5 1 μ := ((br_p c_4 rfl) : ω = g_X4_saves_2 μ (fu + 1) k ω).trans hg_2
        exact K_29 _ _ (by rw [← ex]; exact hP) hS ls (lv_sub hl [0] rfl)
      refine lv_aload_n hx hb dX4_saves_7 rfl (lv_at hl 0 rfl) ?_
      refine mo_g1 hx hb hts hown hK hP (v := ω 1 0) rfl dX4_saves_8 ?_
      refine lv_iconst (v := 5) hx hb dX4_saves_11 (by decide) ?_
      refine lv_icmp_ne (tgt := 29) hx hb dX4_saves_12 (by decide) (fun c_12 => ?_) (fun c_12 => ?_)
      · have ex : ω = g_X4_saves_2 μ 5 1 μ := ((br_n c_4 (br_n c_12 rfl)) : ω = g_X4_saves_2 μ (fu + 1) k ω).trans hg_2
        exact K_29 _ _ (by rw [← ex]; exact hP) hS ls (lv_sub hl [0] rfl)
      refine lv_aload_n hx hb dX4_saves_15 rfl (lv_at hl 0 rfl) ?_
      refine lv_iload_n hx hb dX4_saves_16 rfl (lv_at hl 1 rfl) ?_
      refine lv_iconst (v := 1) hx hb dX4_saves_17 (by decide) ?_
      refine lv_iaddN (x := k) (y := 1) hx hb rfl rfl dX4_saves_18 ?_
      refine lv_iload_n hx hb dX4_saves_19 rfl (lv_at hl 1 rfl) ?_
      refine mo_callV (rest := []) hx hb hml hown hts hK hP hD hS (c_X4_copies l D cI o a ω hh (nI (k + 1)) (k + 1) rfl (nI k) k rfl (by first | with_reducible assumption | omega) (by first | with_reducible assumption | omega)) (kV_X4_copies hts ml_X4_26 ⟨(Nat.le_of_ble_eq_true rfl), (Nat.le_of_ble_eq_true rfl)⟩) rfl hl.1 rfl (Nat.le_of_ble_eq_true rfl) dX4_saves_20 (Nat.zero_le _) (Nat.zero_le _) (fun H locs hP hS => ?_)
      refine lv_iinc (v := nI (k + 1)) (lv' := [(1, .int (nI (k + 1))), (0, .ref (o))]) hx hb dX4_saves_23 hl (k := 1) rfl (nI_c1 _) (by decide) rfl (fun ls hl => ?_)
      refine lv_goto (tgt := 2) hx hb dX4_saves_26 (by decide) ?_
      exact ih (k + 1) (s_X4_copies ω (k + 1) k) (by omega) (by omega) (by omega) (((br_n c_4 (br_p c_12 rfl)) : g_X4_saves_2 μ fu (k + 1) (s_X4_copies ω (k + 1) k) = g_X4_saves_2 μ (fu + 1) k ω).trans hg_2) _ _ hP hS ls (lv_sub hl [1, 0] rfl)
  exact L_2 5 1 μ (by decide) (by decide) (by decide) rfl _ _ hP hS ls (lv_sub hl [1, 0] rfl)
theorem kV_X4_saves {R : Room} {s : State} {args : Array Value} {own : String} {idx : Nat} {c0 : Cond} (hts : ∀ w ∈ c0 :: W0, w.before args s = true) (hl : Cond.methodLink own idx yX4_saves ∈ W0) (hR : rm_X4_saves.frames + 1 ≤ R.frames ∧ 8 + (2 + 11) + rm_X4_saves.locals ≤ R.locals) : CallW R s args own RX4 idx yX4_saves cX4_saves 2 (none) (Cond.code yX4_saves cX4_saves 2 (none) :: W0) rm_X4_saves 0 0 0 := cwV 0 hts (gdV hl mi_yX4_saves ms_yX4_saves mini_X4 mc_yX4_saves) rfl rfl rfl (by decide +kernel) hR

theorem saves_1 {μ : Nat → Nat → Int32} (hok : okM μ) : s_X4_saves μ 1 0 = nI (if mS μ = 5 then 5 else mS μ + 1) := by
  have hs := okM_s hok
  have b := okM_b hok
  have e : ∀ ω : Nat → Nat → Int32, (g_X4_saves_2 μ 5 1 μ) 1 0 = μ 1 0 := fun _ => by rw [saves_g (by decide)]
  unfold s_X4_saves
  split
  · rename_i h
    rw [saves_g (by decide)] at h
    rw [copies_o (by decide), shS_eq, saves_g (by decide), h]
    rw [if_pos]
    · decide
    · have h2 := h.symm.trans hs
      exact ((nI_eq (a := 5) (b := mS μ) (by decide) (by omega)).mp h2).symm
  · rename_i h
    rw [saves_g (by decide)] at h
    rw [copies_o (by decide), shS_eq, saves_g (by decide), hs]
    rw [if_neg (fun q => h (by rw [hs, q]; rfl)), Int32.sub_zero, nI_1]
theorem saves_lo {μ : Nat → Nat → Int32} (hok : okM μ) {j : Nat} (hj : j < 413) : s_X4_saves μ 0 j = μ 0 j := by
  have hs := okM_s hok
  have b := okM_b hok
  unfold s_X4_saves
  split
  · rw [copies_at (by decide), if_neg (by omega), shS_f (by decide), shS_f (by decide), saves_g0 _ _ _ (by omega) _ hj]
  · rename_i h
    rw [saves_g (by decide)] at h
    rw [copies_at (by omega), if_neg (by omega), shS_f (by decide), shS_f (by decide), saves_g0 _ _ _ (by omega) _ hj]
theorem saves_ok {μ : Nat → Nat → Int32} (hok : okM μ) : okM (s_X4_saves μ) := by
  have b := okM_b hok
  have h1 := saves_1 hok
  have h2 : mS (s_X4_saves μ) = if mS μ = 5 then 5 else mS μ + 1 := by unfold mS; rw [h1]; exact tn_nI (by split <;> omega)
  exact okM_of hok (saves_lo hok (by omega)) (saves_lo hok (by omega)) (saves_lo hok (by omega)) (saves_lo hok (by omega)) ⟨by rw [h1, h2], by rw [h2]; split <;> omega⟩ (fun k hk => saves_lo hok (by omega)) (fun k hk h => ⟨by rw [← saves_lo hok (by omega)]; exact h, saves_lo hok (by omega)⟩)
theorem saves_n {μ : Nat → Nat → Int32} (hok : okM μ) : mN (s_X4_saves μ) = mN μ ∧ mT (s_X4_saves μ) = mT μ ∧ mC (s_X4_saves μ) = mC μ := ⟨congrArg tn (saves_lo hok (by omega)), congrArg tn (saves_lo hok (by omega)), congrArg tn (saves_lo hok (by omega))⟩

/-! X4.isTitle -/
def f_X4_isTitle (μ : Nat → Nat → Int32) (x : Int32) : Int32 := (f_X4_in x 0 ((μ 0 0) - 1))
abbrev rm_X4_isTitle : Room := { frames := 1, cells := 0, slots := 0, locals := 22 }
set_option maxRecDepth 100000 in
theorem c_X4_isTitle (l : Launch) (D : va_G) (cI : ClassId) (o : Nat) (a : Nat → Nat) (μ : Nat → Nat → Int32) (hh : Int64) (x : Int32) :
    Met l yX4_isTitle (Cond.code yX4_isTitle cX4_isTitle 2 (some .boolean) :: W0) rm_X4_isTitle (va_Pc [.ref o, .int x] (moP D cI o a μ hh)) (vp_Si (fun r => r = f_X4_isTitle μ x)) 0 0 (fun _ => False) := by
  refine st_gen (cc := cX4_isTitle) (maxL := 2) (ret := some .boolean) (own := RX4) (by decide) rfl (Nat.le_of_ble_eq_true rfl) ?_
  intro p e s m below meth c ls C hPre hl
  obtain ⟨hx, hb, hr, hml, hown, hts, hlk⟩ := C
  obtain ⟨hP, hK⟩ := hPre
  have hl : lv_has ls 2 [(0, .ref (o)), (1, .int (x))] := hl
  refine lv_iload_n hx hb dX4_isTitle_0 rfl (lv_at hl 1 rfl) ?_
  refine lv_iconst (v := 0) hx hb dX4_isTitle_1 (by decide) ?_
  refine lv_aload_n hx hb dX4_isTitle_2 rfl (lv_at hl 0 rfl) ?_
  refine mo_g0 hx hb hts hown hK hP dX4_isTitle_3 ?_
  refine lv_iconst (v := 0) hx hb dX4_isTitle_6 (by decide) ?_
  refine mo_r0 hx hb hK hP (0) rfl (by omega) (v := μ 0 0) rfl dX4_isTitle_7 ?_
  refine lv_iconst (v := 1) hx hb dX4_isTitle_8 (by decide) ?_
  refine lv_isub hx hb dX4_isTitle_9 ?_
  refine cl_S (rest := []) hx hb hml hown hts (c_X4_in l x 0 ((μ 0 0) - 1)) (kS_X4_in hts ml_X4_30 ⟨(Nat.le_of_ble_eq_true rfl), (Nat.le_of_ble_eq_true rfl)⟩) rfl hl.1 rfl (Nat.le_of_ble_eq_true rfl) dX4_isTitle_10 (Nat.zero_le _) (Nat.zero_le _) ?_
  exact fin_z hx hb hr hlk (z_X4_in ..) rfl dX4_isTitle_13
theorem kV_X4_isTitle {R : Room} {s : State} {args : Array Value} {own : String} {idx : Nat} {c0 : Cond} (hts : ∀ w ∈ c0 :: W0, w.before args s = true) (hl : Cond.methodLink own idx yX4_isTitle ∈ W0) (hR : rm_X4_isTitle.frames + 1 ≤ R.frames ∧ 8 + (2 + 11) + rm_X4_isTitle.locals ≤ R.locals) : CallW R s args own RX4 idx yX4_isTitle cX4_isTitle 2 (some .boolean) (Cond.code yX4_isTitle cX4_isTitle 2 (some .boolean) :: W0) rm_X4_isTitle 0 0 1 := cwV 1 hts (gdV hl mi_yX4_isTitle ms_yX4_isTitle mini_X4 mc_yX4_isTitle) rfl rfl rfl (by decide +kernel) hR

theorem z_X4_isTitle {μ : Nat → Nat → Int32} {x : Int32} : f_X4_isTitle μ x = 0 ∨ f_X4_isTitle μ x = 1 := by
  unfold f_X4_isTitle
  (repeat' split) <;> first | exact Or.inl rfl | exact Or.inr rfl | exact z_X4_in

theorem isTitle_okm {μ : Nat → Nat → Int32} (hok : okM μ) {x : Int32} (h : ¬ f_X4_isTitle μ x = 0) : tn x < mT μ ∧ x = nI (tn x) := by
  have q := in_nz (x := x) (y := 0) (z := μ 0 0 - 1) h
  have b := okM_b hok
  rw [okM_0 hok] at q
  exact ⟨tn_lt q.1 q.2 (by omega), tn_pos q.1⟩

/-! X4.isCourse -/
def f_X4_isCourse (μ : Nat → Nat → Int32) (x : Int32) : Int32 := (f_X4_in x 0 ((μ 0 2) - 1))
abbrev rm_X4_isCourse : Room := { frames := 1, cells := 0, slots := 0, locals := 22 }
set_option maxRecDepth 100000 in
theorem c_X4_isCourse (l : Launch) (D : va_G) (cI : ClassId) (o : Nat) (a : Nat → Nat) (μ : Nat → Nat → Int32) (hh : Int64) (x : Int32) :
    Met l yX4_isCourse (Cond.code yX4_isCourse cX4_isCourse 2 (some .boolean) :: W0) rm_X4_isCourse (va_Pc [.ref o, .int x] (moP D cI o a μ hh)) (vp_Si (fun r => r = f_X4_isCourse μ x)) 0 0 (fun _ => False) := by
  refine st_gen (cc := cX4_isCourse) (maxL := 2) (ret := some .boolean) (own := RX4) (by decide) rfl (Nat.le_of_ble_eq_true rfl) ?_
  intro p e s m below meth c ls C hPre hl
  obtain ⟨hx, hb, hr, hml, hown, hts, hlk⟩ := C
  obtain ⟨hP, hK⟩ := hPre
  have hl : lv_has ls 2 [(0, .ref (o)), (1, .int (x))] := hl
  refine lv_iload_n hx hb dX4_isCourse_0 rfl (lv_at hl 1 rfl) ?_
  refine lv_iconst (v := 0) hx hb dX4_isCourse_1 (by decide) ?_
  refine lv_aload_n hx hb dX4_isCourse_2 rfl (lv_at hl 0 rfl) ?_
  refine mo_g0 hx hb hts hown hK hP dX4_isCourse_3 ?_
  refine lv_iconst (v := 2) hx hb dX4_isCourse_6 (by decide) ?_
  refine mo_r0 hx hb hK hP (2) rfl (by omega) (v := μ 0 2) rfl dX4_isCourse_7 ?_
  refine lv_iconst (v := 1) hx hb dX4_isCourse_8 (by decide) ?_
  refine lv_isub hx hb dX4_isCourse_9 ?_
  refine cl_S (rest := []) hx hb hml hown hts (c_X4_in l x 0 ((μ 0 2) - 1)) (kS_X4_in hts ml_X4_30 ⟨(Nat.le_of_ble_eq_true rfl), (Nat.le_of_ble_eq_true rfl)⟩) rfl hl.1 rfl (Nat.le_of_ble_eq_true rfl) dX4_isCourse_10 (Nat.zero_le _) (Nat.zero_le _) ?_
  exact fin_z hx hb hr hlk (z_X4_in ..) rfl dX4_isCourse_13
theorem kV_X4_isCourse {R : Room} {s : State} {args : Array Value} {own : String} {idx : Nat} {c0 : Cond} (hts : ∀ w ∈ c0 :: W0, w.before args s = true) (hl : Cond.methodLink own idx yX4_isCourse ∈ W0) (hR : rm_X4_isCourse.frames + 1 ≤ R.frames ∧ 8 + (2 + 11) + rm_X4_isCourse.locals ≤ R.locals) : CallW R s args own RX4 idx yX4_isCourse cX4_isCourse 2 (some .boolean) (Cond.code yX4_isCourse cX4_isCourse 2 (some .boolean) :: W0) rm_X4_isCourse 0 0 1 := cwV 1 hts (gdV hl mi_yX4_isCourse ms_yX4_isCourse mini_X4 mc_yX4_isCourse) rfl rfl rfl (by decide +kernel) hR

theorem z_X4_isCourse {μ : Nat → Nat → Int32} {x : Int32} : f_X4_isCourse μ x = 0 ∨ f_X4_isCourse μ x = 1 := by
  unfold f_X4_isCourse
  (repeat' split) <;> first | exact Or.inl rfl | exact Or.inr rfl | exact z_X4_in

theorem isCourse_okm {μ : Nat → Nat → Int32} (hok : okM μ) {x : Int32} (h : ¬ f_X4_isCourse μ x = 0) : tn x < mC μ ∧ x = nI (tn x) := by
  have q := in_nz (x := x) (y := 0) (z := μ 0 2 - 1) h
  have b := okM_b hok
  rw [okM_2 hok] at q
  exact ⟨tn_lt q.1 q.2 (by omega), tn_pos q.1⟩

/-! X4.isCopy -/
def f_X4_isCopy (μ : Nat → Nat → Int32) (x : Int32) : Int32 := (f_X4_in x 0 ((μ 0 1) - 1))
abbrev rm_X4_isCopy : Room := { frames := 1, cells := 0, slots := 0, locals := 22 }
set_option maxRecDepth 100000 in
theorem c_X4_isCopy (l : Launch) (D : va_G) (cI : ClassId) (o : Nat) (a : Nat → Nat) (μ : Nat → Nat → Int32) (hh : Int64) (x : Int32) :
    Met l yX4_isCopy (Cond.code yX4_isCopy cX4_isCopy 2 (some .boolean) :: W0) rm_X4_isCopy (va_Pc [.ref o, .int x] (moP D cI o a μ hh)) (vp_Si (fun r => r = f_X4_isCopy μ x)) 0 0 (fun _ => False) := by
  refine st_gen (cc := cX4_isCopy) (maxL := 2) (ret := some .boolean) (own := RX4) (by decide) rfl (Nat.le_of_ble_eq_true rfl) ?_
  intro p e s m below meth c ls C hPre hl
  obtain ⟨hx, hb, hr, hml, hown, hts, hlk⟩ := C
  obtain ⟨hP, hK⟩ := hPre
  have hl : lv_has ls 2 [(0, .ref (o)), (1, .int (x))] := hl
  refine lv_iload_n hx hb dX4_isCopy_0 rfl (lv_at hl 1 rfl) ?_
  refine lv_iconst (v := 0) hx hb dX4_isCopy_1 (by decide) ?_
  refine lv_aload_n hx hb dX4_isCopy_2 rfl (lv_at hl 0 rfl) ?_
  refine mo_g0 hx hb hts hown hK hP dX4_isCopy_3 ?_
  refine lv_iconst (v := 1) hx hb dX4_isCopy_6 (by decide) ?_
  refine mo_r0 hx hb hK hP (1) rfl (by omega) (v := μ 0 1) rfl dX4_isCopy_7 ?_
  refine lv_iconst (v := 1) hx hb dX4_isCopy_8 (by decide) ?_
  refine lv_isub hx hb dX4_isCopy_9 ?_
  refine cl_S (rest := []) hx hb hml hown hts (c_X4_in l x 0 ((μ 0 1) - 1)) (kS_X4_in hts ml_X4_30 ⟨(Nat.le_of_ble_eq_true rfl), (Nat.le_of_ble_eq_true rfl)⟩) rfl hl.1 rfl (Nat.le_of_ble_eq_true rfl) dX4_isCopy_10 (Nat.zero_le _) (Nat.zero_le _) ?_
  exact fin_z hx hb hr hlk (z_X4_in ..) rfl dX4_isCopy_13
theorem kV_X4_isCopy {R : Room} {s : State} {args : Array Value} {own : String} {idx : Nat} {c0 : Cond} (hts : ∀ w ∈ c0 :: W0, w.before args s = true) (hl : Cond.methodLink own idx yX4_isCopy ∈ W0) (hR : rm_X4_isCopy.frames + 1 ≤ R.frames ∧ 8 + (2 + 11) + rm_X4_isCopy.locals ≤ R.locals) : CallW R s args own RX4 idx yX4_isCopy cX4_isCopy 2 (some .boolean) (Cond.code yX4_isCopy cX4_isCopy 2 (some .boolean) :: W0) rm_X4_isCopy 0 0 1 := cwV 1 hts (gdV hl mi_yX4_isCopy ms_yX4_isCopy mini_X4 mc_yX4_isCopy) rfl rfl rfl (by decide +kernel) hR

theorem z_X4_isCopy {μ : Nat → Nat → Int32} {x : Int32} : f_X4_isCopy μ x = 0 ∨ f_X4_isCopy μ x = 1 := by
  unfold f_X4_isCopy
  (repeat' split) <;> first | exact Or.inl rfl | exact Or.inr rfl | exact z_X4_in

theorem isCopy_okm {μ : Nat → Nat → Int32} (hok : okM μ) {x : Int32} (h : ¬ f_X4_isCopy μ x = 0) : tn x < mN μ ∧ x = nI (tn x) := by
  have q := in_nz (x := x) (y := 0) (z := μ 0 1 - 1) h
  have b := okM_b hok
  rw [(okM_1 hok).1] at q
  exact ⟨tn_lt q.1 q.2 (by omega), tn_pos q.1⟩

/-! X4.isCustomer -/
def f_X4_isCustomer (x : Int32) : Int32 := (f_X4_in x 0 7)
abbrev rm_X4_isCustomer : Room := { frames := 1, cells := 0, slots := 0, locals := 22 }
set_option maxRecDepth 100000 in
theorem c_X4_isCustomer (l : Launch) (x : Int32) :
    Met l yX4_isCustomer (Cond.code yX4_isCustomer cX4_isCustomer 1 (some .boolean) :: W0) rm_X4_isCustomer (va_Pc [.int x] (fun _ => True)) (vp_Si (fun r => r = f_X4_isCustomer x)) 0 0 (fun _ => False) := by
  refine st_gen (cc := cX4_isCustomer) (maxL := 1) (ret := some .boolean) (own := RX4) (by decide) rfl (Nat.le_of_ble_eq_true rfl) ?_
  intro p e s m below meth c ls C hPre hl
  obtain ⟨hx, hb, hr, hml, hown, hts, hlk⟩ := C
  have hl : lv_has ls 1 [(0, .int (x))] := hl
  refine lv_iload_n hx hb dX4_isCustomer_0 rfl (lv_at hl 0 rfl) ?_
  refine lv_iconst (v := 0) hx hb dX4_isCustomer_1 (by decide) ?_
  refine lv_bipush (v := 7) hx hb dX4_isCustomer_2 (by decide) ?_
  refine cl_S (rest := []) hx hb hml hown hts (c_X4_in l x 0 7) (kS_X4_in hts ml_X4_30 ⟨(Nat.le_of_ble_eq_true rfl), (Nat.le_of_ble_eq_true rfl)⟩) rfl hl.1 rfl (Nat.le_of_ble_eq_true rfl) dX4_isCustomer_4 (Nat.zero_le _) (Nat.zero_le _) ?_
  exact fin_z hx hb hr hlk (z_X4_in ..) rfl dX4_isCustomer_7
theorem kS_X4_isCustomer {R : Room} {s : State} {args : Array Value} {own : String} {idx : Nat} {c0 : Cond} (hts : ∀ w ∈ c0 :: W0, w.before args s = true) (hl : Cond.methodLink own idx yX4_isCustomer ∈ W0) (hR : rm_X4_isCustomer.frames + 1 ≤ R.frames ∧ 8 + (1 + 11) + rm_X4_isCustomer.locals ≤ R.locals) : CallB R s args own idx yX4_isCustomer cX4_isCustomer 1 (some .boolean) (Cond.code yX4_isCustomer cX4_isCustomer 1 (some .boolean) :: W0) rm_X4_isCustomer 0 0 1 ∧ (Cond.static yX4_isCustomer).before args s = true := va_cwS 1 hts (gdS hl mst_yX4_isCustomer mini_X4 mc_yX4_isCustomer) rfl rfl rfl (by decide +kernel) hR

theorem z_X4_isCustomer {x : Int32} : f_X4_isCustomer x = 0 ∨ f_X4_isCustomer x = 1 := by
  unfold f_X4_isCustomer
  (repeat' split) <;> first | exact Or.inl rfl | exact Or.inr rfl | exact z_X4_in

theorem isCustomer_okm {x : Int32} (h : ¬ f_X4_isCustomer x = 0) : tn x < 8 ∧ x = nI (tn x) := by
  have q := inN 7 (x := x) (y := 0) (z := 7) h (by decide) rfl (by decide)
  exact ⟨by omega, q.2⟩

/-! X4.price -/
def f_X4_price (μ : Nat → Nat → Int32) (t : Nat) : Int32 := μ 0 (23 + (2 * t))
abbrev rm_X4_price : Room := { frames := 0, cells := 0, slots := 0, locals := 0 }
set_option maxRecDepth 100000 in
theorem c_X4_price (l : Launch) (D : va_G) (cI : ClassId) (o : Nat) (a : Nat → Nat) (μ : Nat → Nat → Int32) (hh : Int64) (x : Int32) (t : Nat) (hx : x = nI t) (ht : t < 1000) :
    Met l yX4_price (Cond.code yX4_price cX4_price 2 (some .int) :: W0) rm_X4_price (va_Pc [.ref o, .int x] (moP D cI o a μ hh)) (vp_Si (fun r => r = f_X4_price μ t)) 0 0 (fun _ => False) := by
  subst hx
  refine st_gen (cc := cX4_price) (maxL := 2) (ret := some .int) (own := RX4) (by decide) rfl (Nat.le_of_ble_eq_true rfl) ?_
  intro p e s m below meth c ls C hPre hl
  obtain ⟨hx, hb, hr, hml, hown, hts, hlk⟩ := C
  obtain ⟨hP, hK⟩ := hPre
  have hl : lv_has ls 2 [(0, .ref (o)), (1, .int (nI t))] := hl
  refine lv_aload_n hx hb dX4_price_0 rfl (lv_at hl 0 rfl) ?_
  refine mo_g0 hx hb hts hown hK hP dX4_price_1 ?_
  refine lv_bipush (v := 23) hx hb dX4_price_4 (by decide) ?_
  refine lv_iconst (v := 2) hx hb dX4_price_6 (by decide) ?_
  refine lv_iload_n hx hb dX4_price_7 rfl (lv_at hl 1 rfl) ?_
  refine lv_imulN (x := 2) (y := t) hx hb rfl rfl dX4_price_8 ?_
  refine lv_iaddN (x := 23) (y := (2 * t)) hx hb rfl rfl dX4_price_9 ?_
  refine mo_r0 hx hb hK hP ((23 + (2 * t))) rfl (by omega) (v := μ 0 (23 + (2 * t))) rfl dX4_price_10 ?_
  exact fin_i hx hb hr hlk rfl dX4_price_11
theorem kV_X4_price {R : Room} {s : State} {args : Array Value} {own : String} {idx : Nat} {c0 : Cond} (hts : ∀ w ∈ c0 :: W0, w.before args s = true) (hl : Cond.methodLink own idx yX4_price ∈ W0) (hR : rm_X4_price.frames + 1 ≤ R.frames ∧ 8 + (2 + 11) + rm_X4_price.locals ≤ R.locals) : CallW R s args own RX4 idx yX4_price cX4_price 2 (some .int) (Cond.code yX4_price cX4_price 2 (some .int) :: W0) rm_X4_price 0 0 1 := cwV 1 hts (gdV hl mi_yX4_price ms_yX4_price mini_X4 mc_yX4_price) rfl rfl rfl (by decide +kernel) hR

/-! X4.current -/
def f_X4_current (μ : Nat → Nat → Int32) (t : Nat) : Int32 := μ 0 ((23 + (2 * t)) + 1)
abbrev rm_X4_current : Room := { frames := 0, cells := 0, slots := 0, locals := 0 }
set_option maxRecDepth 100000 in
theorem c_X4_current (l : Launch) (D : va_G) (cI : ClassId) (o : Nat) (a : Nat → Nat) (μ : Nat → Nat → Int32) (hh : Int64) (x : Int32) (t : Nat) (hx : x = nI t) (ht : t < 1000) :
    Met l yX4_current (Cond.code yX4_current cX4_current 2 (some .int) :: W0) rm_X4_current (va_Pc [.ref o, .int x] (moP D cI o a μ hh)) (vp_Si (fun r => r = f_X4_current μ t)) 0 0 (fun _ => False) := by
  subst hx
  refine st_gen (cc := cX4_current) (maxL := 2) (ret := some .int) (own := RX4) (by decide) rfl (Nat.le_of_ble_eq_true rfl) ?_
  intro p e s m below meth c ls C hPre hl
  obtain ⟨hx, hb, hr, hml, hown, hts, hlk⟩ := C
  obtain ⟨hP, hK⟩ := hPre
  have hl : lv_has ls 2 [(0, .ref (o)), (1, .int (nI t))] := hl
  refine lv_aload_n hx hb dX4_current_0 rfl (lv_at hl 0 rfl) ?_
  refine mo_g0 hx hb hts hown hK hP dX4_current_1 ?_
  refine lv_bipush (v := 23) hx hb dX4_current_4 (by decide) ?_
  refine lv_iconst (v := 2) hx hb dX4_current_6 (by decide) ?_
  refine lv_iload_n hx hb dX4_current_7 rfl (lv_at hl 1 rfl) ?_
  refine lv_imulN (x := 2) (y := t) hx hb rfl rfl dX4_current_8 ?_
  refine lv_iaddN (x := 23) (y := (2 * t)) hx hb rfl rfl dX4_current_9 ?_
  refine lv_iconst (v := 1) hx hb dX4_current_10 (by decide) ?_
  refine lv_iaddN (x := (23 + (2 * t))) (y := 1) hx hb rfl rfl dX4_current_11 ?_
  refine mo_r0 hx hb hK hP (((23 + (2 * t)) + 1)) rfl (by omega) (v := μ 0 ((23 + (2 * t)) + 1)) rfl dX4_current_12 ?_
  exact fin_i hx hb hr hlk rfl dX4_current_13
theorem kV_X4_current {R : Room} {s : State} {args : Array Value} {own : String} {idx : Nat} {c0 : Cond} (hts : ∀ w ∈ c0 :: W0, w.before args s = true) (hl : Cond.methodLink own idx yX4_current ∈ W0) (hR : rm_X4_current.frames + 1 ≤ R.frames ∧ 8 + (2 + 11) + rm_X4_current.locals ≤ R.locals) : CallW R s args own RX4 idx yX4_current cX4_current 2 (some .int) (Cond.code yX4_current cX4_current 2 (some .int) :: W0) rm_X4_current 0 0 1 := cwV 1 hts (gdV hl mi_yX4_current ms_yX4_current mini_X4 mc_yX4_current) rfl rfl rfl (by decide +kernel) hR

/-! X4.ofCourse -/
def f_X4_ofCourse (μ : Nat → Nat → Int32) (jc : Nat) (w : Nat) : Int32 := μ 0 ((35 + (3 * jc)) + w)
abbrev rm_X4_ofCourse : Room := { frames := 0, cells := 0, slots := 0, locals := 0 }
set_option maxRecDepth 100000 in
theorem c_X4_ofCourse (l : Launch) (D : va_G) (cI : ClassId) (o : Nat) (a : Nat → Nat) (μ : Nat → Nat → Int32) (hh : Int64) (x : Int32) (jc : Nat) (hx : x = nI jc) (y : Int32) (w : Nat) (hy : y = nI w) (hjw : 35 + 3 * jc + w < 2891) :
    Met l yX4_ofCourse (Cond.code yX4_ofCourse cX4_ofCourse 3 (some .int) :: W0) rm_X4_ofCourse (va_Pc [.ref o, .int x, .int y] (moP D cI o a μ hh)) (vp_Si (fun r => r = f_X4_ofCourse μ jc w)) 0 0 (fun _ => False) := by
  subst hx
  subst hy
  refine st_gen (cc := cX4_ofCourse) (maxL := 3) (ret := some .int) (own := RX4) (by decide) rfl (Nat.le_of_ble_eq_true rfl) ?_
  intro p e s m below meth c ls C hPre hl
  obtain ⟨hx, hb, hr, hml, hown, hts, hlk⟩ := C
  obtain ⟨hP, hK⟩ := hPre
  have hl : lv_has ls 3 [(0, .ref (o)), (1, .int (nI jc)), (2, .int (nI w))] := hl
  refine lv_aload_n hx hb dX4_ofCourse_0 rfl (lv_at hl 0 rfl) ?_
  refine mo_g0 hx hb hts hown hK hP dX4_ofCourse_1 ?_
  refine lv_bipush (v := 35) hx hb dX4_ofCourse_4 (by decide) ?_
  refine lv_iconst (v := 3) hx hb dX4_ofCourse_6 (by decide) ?_
  refine lv_iload_n hx hb dX4_ofCourse_7 rfl (lv_at hl 1 rfl) ?_
  refine lv_imulN (x := 3) (y := jc) hx hb rfl rfl dX4_ofCourse_8 ?_
  refine lv_iaddN (x := 35) (y := (3 * jc)) hx hb rfl rfl dX4_ofCourse_9 ?_
  refine lv_iload_n hx hb dX4_ofCourse_10 rfl (lv_at hl 2 rfl) ?_
  refine lv_iaddN (x := (35 + (3 * jc))) (y := w) hx hb rfl rfl dX4_ofCourse_11 ?_
  refine mo_r0 hx hb hK hP (((35 + (3 * jc)) + w)) rfl (by omega) (v := μ 0 ((35 + (3 * jc)) + w)) rfl dX4_ofCourse_12 ?_
  exact fin_i hx hb hr hlk rfl dX4_ofCourse_13
theorem kV_X4_ofCourse {R : Room} {s : State} {args : Array Value} {own : String} {idx : Nat} {c0 : Cond} (hts : ∀ w ∈ c0 :: W0, w.before args s = true) (hl : Cond.methodLink own idx yX4_ofCourse ∈ W0) (hR : rm_X4_ofCourse.frames + 1 ≤ R.frames ∧ 8 + (3 + 11) + rm_X4_ofCourse.locals ≤ R.locals) : CallW R s args own RX4 idx yX4_ofCourse cX4_ofCourse 3 (some .int) (Cond.code yX4_ofCourse cX4_ofCourse 3 (some .int) :: W0) rm_X4_ofCourse 0 0 2 := cwV 2 hts (gdV hl mi_yX4_ofCourse ms_yX4_ofCourse mini_X4 mc_yX4_ofCourse) rfl rfl rfl (by decide +kernel) hR

/-! X4.of -/
def f_X4_of (μ : Nat → Nat → Int32) (k : Nat) (w : Nat) : Int32 := μ 0 ((53 + (6 * k)) + w)
abbrev rm_X4_of : Room := { frames := 0, cells := 0, slots := 0, locals := 0 }
set_option maxRecDepth 100000 in
theorem c_X4_of (l : Launch) (D : va_G) (cI : ClassId) (o : Nat) (a : Nat → Nat) (μ : Nat → Nat → Int32) (hh : Int64) (x : Int32) (k : Nat) (hx : x = nI k) (y : Int32) (w : Nat) (hy : y = nI w) (hkw : 53 + 6 * k + w < 2891) :
    Met l yX4_of (Cond.code yX4_of cX4_of 3 (some .int) :: W0) rm_X4_of (va_Pc [.ref o, .int x, .int y] (moP D cI o a μ hh)) (vp_Si (fun r => r = f_X4_of μ k w)) 0 0 (fun _ => False) := by
  subst hx
  subst hy
  refine st_gen (cc := cX4_of) (maxL := 3) (ret := some .int) (own := RX4) (by decide) rfl (Nat.le_of_ble_eq_true rfl) ?_
  intro p e s m below meth c ls C hPre hl
  obtain ⟨hx, hb, hr, hml, hown, hts, hlk⟩ := C
  obtain ⟨hP, hK⟩ := hPre
  have hl : lv_has ls 3 [(0, .ref (o)), (1, .int (nI k)), (2, .int (nI w))] := hl
  refine lv_aload_n hx hb dX4_of_0 rfl (lv_at hl 0 rfl) ?_
  refine mo_g0 hx hb hts hown hK hP dX4_of_1 ?_
  refine lv_bipush (v := 53) hx hb dX4_of_4 (by decide) ?_
  refine lv_bipush (v := 6) hx hb dX4_of_6 (by decide) ?_
  refine lv_iload_n hx hb dX4_of_8 rfl (lv_at hl 1 rfl) ?_
  refine lv_imulN (x := 6) (y := k) hx hb rfl rfl dX4_of_9 ?_
  refine lv_iaddN (x := 53) (y := (6 * k)) hx hb rfl rfl dX4_of_10 ?_
  refine lv_iload_n hx hb dX4_of_11 rfl (lv_at hl 2 rfl) ?_
  refine lv_iaddN (x := (53 + (6 * k))) (y := w) hx hb rfl rfl dX4_of_12 ?_
  refine mo_r0 hx hb hK hP (((53 + (6 * k)) + w)) rfl (by omega) (v := μ 0 ((53 + (6 * k)) + w)) rfl dX4_of_13 ?_
  exact fin_i hx hb hr hlk rfl dX4_of_14
theorem kV_X4_of {R : Room} {s : State} {args : Array Value} {own : String} {idx : Nat} {c0 : Cond} (hts : ∀ w ∈ c0 :: W0, w.before args s = true) (hl : Cond.methodLink own idx yX4_of ∈ W0) (hR : rm_X4_of.frames + 1 ≤ R.frames ∧ 8 + (3 + 11) + rm_X4_of.locals ≤ R.locals) : CallW R s args own RX4 idx yX4_of cX4_of 3 (some .int) (Cond.code yX4_of cX4_of 3 (some .int) :: W0) rm_X4_of 0 0 2 := cwV 2 hts (gdV hl mi_yX4_of ms_yX4_of mini_X4 mc_yX4_of) rfl rfl rfl (by decide +kernel) hR

/-! X4.sets -/
def s_X4_sets (μ : Nat → Nat → Int32) (k : Nat) (w : Nat) (z : Int32) : Nat → Nat → Int32 := (shU μ 0 ((53 + (6 * k)) + w) z)
abbrev rm_X4_sets : Room := { frames := 0, cells := 0, slots := 0, locals := 0 }
set_option maxRecDepth 100000 in
theorem c_X4_sets (l : Launch) (D : va_G) (cI : ClassId) (o : Nat) (a : Nat → Nat) (μ : Nat → Nat → Int32) (hh : Int64) (x : Int32) (k : Nat) (hx : x = nI k) (y : Int32) (w : Nat) (hy : y = nI w) (z : Int32) (hkw : 53 + 6 * k + w < 2891) :
    Met l yX4_sets (Cond.code yX4_sets cX4_sets 4 (none) :: W0) rm_X4_sets (va_Pc [.ref o, .int x, .int y, .int z] (moM D cI o a μ hh)) (moV D cI o a hh (s_X4_sets μ k w z)) 0 0 (moA o a) := by
  subst hx
  subst hy
  refine st_gen (cc := cX4_sets) (maxL := 4) (ret := none) (own := RX4) (by decide) rfl (Nat.le_of_ble_eq_true rfl) ?_
  intro p e s m below meth c ls C hPre hl
  obtain ⟨hx, hb, hr, hml, hown, hts, hlk⟩ := C
  obtain ⟨⟨hP, hK⟩, hD⟩ := hPre
  have hS : va_S (moA o a) s.heap s.heap [] := va_S.rf
  have hl : lv_has ls 4 [(0, .ref (o)), (1, .int (nI k)), (2, .int (nI w)), (3, .int (z))] := hl
  refine lv_aload_n hx hb dX4_sets_0 rfl (lv_at hl 0 rfl) ?_
  refine mo_g0 hx hb hts hown hK hP dX4_sets_1 ?_
  refine lv_bipush (v := 53) hx hb dX4_sets_4 (by decide) ?_
  refine lv_bipush (v := 6) hx hb dX4_sets_6 (by decide) ?_
  refine lv_iload_n hx hb dX4_sets_8 rfl (lv_at hl 1 rfl) ?_
  refine lv_imulN (x := 6) (y := k) hx hb rfl rfl dX4_sets_9 ?_
  refine lv_iaddN (x := 53) (y := (6 * k)) hx hb rfl rfl dX4_sets_10 ?_
  refine lv_iload_n hx hb dX4_sets_11 rfl (lv_at hl 2 rfl) ?_
  refine lv_iaddN (x := (53 + (6 * k))) (y := w) hx hb rfl rfl dX4_sets_12 ?_
  refine lv_iload_n hx hb dX4_sets_13 rfl (lv_at hl 3 rfl) ?_
  refine mo_w0 hx hb hK hP hD hS (((53 + (6 * k)) + w)) rfl (by omega) dX4_sets_14 (fun H locs hP hS => ?_)
  exact mo_finV hx hb hr hlk hK hP hS rfl dX4_sets_15
theorem kV_X4_sets {R : Room} {s : State} {args : Array Value} {own : String} {idx : Nat} {c0 : Cond} (hts : ∀ w ∈ c0 :: W0, w.before args s = true) (hl : Cond.methodLink own idx yX4_sets ∈ W0) (hR : rm_X4_sets.frames + 1 ≤ R.frames ∧ 8 + (4 + 11) + rm_X4_sets.locals ≤ R.locals) : CallW R s args own RX4 idx yX4_sets cX4_sets 4 (none) (Cond.code yX4_sets cX4_sets 4 (none) :: W0) rm_X4_sets 0 0 3 := cwV 3 hts (gdV hl mi_yX4_sets ms_yX4_sets mini_X4 mc_yX4_sets) rfl rfl rfl (by decide +kernel) hR

/-! X4.is -/
def f_X4_is (μ : Nat → Nat → Int32) (k : Nat) (y : Int32) : Int32 := (if (f_X4_of μ k 3) = y then 1 else 0)
abbrev rm_X4_is : Room := { frames := 1, cells := 0, slots := 0, locals := 22 }
set_option maxRecDepth 100000 in
theorem c_X4_is (l : Launch) (D : va_G) (cI : ClassId) (o : Nat) (a : Nat → Nat) (μ : Nat → Nat → Int32) (hh : Int64) (x : Int32) (k : Nat) (hx : x = nI k) (y : Int32) (hkw : k < 400) :
    Met l yX4_is (Cond.code yX4_is cX4_is 3 (some .boolean) :: W0) rm_X4_is (va_Pc [.ref o, .int x, .int y] (moP D cI o a μ hh)) (vp_Si (fun r => r = f_X4_is μ k y)) 0 0 (fun _ => False) := by
  subst hx
  refine st_gen (cc := cX4_is) (maxL := 3) (ret := some .boolean) (own := RX4) (by decide) rfl (Nat.le_of_ble_eq_true rfl) ?_
  intro p e s m below meth c ls C hPre hl
  obtain ⟨hx, hb, hr, hml, hown, hts, hlk⟩ := C
  obtain ⟨hP, hK⟩ := hPre
  have hl : lv_has ls 3 [(0, .ref (o)), (1, .int (nI k)), (2, .int (y))] := hl
  refine lv_aload_n hx hb dX4_is_0 rfl (lv_at hl 0 rfl) ?_
  refine lv_iload_n hx hb dX4_is_1 rfl (lv_at hl 1 rfl) ?_
  refine lv_iconst (v := 3) hx hb dX4_is_2 (by decide) ?_
  refine mo_call (rest := []) hx hb hml hown hts hK hP (c_X4_of l D cI o a μ hh (nI k) k rfl 3 3 rfl (by first | with_reducible assumption | omega)) (kV_X4_of hts ml_X4_34 ⟨(Nat.le_of_ble_eq_true rfl), (Nat.le_of_ble_eq_true rfl)⟩) rfl hl.1 rfl (Nat.le_of_ble_eq_true rfl) dX4_is_3 (Nat.zero_le _) (Nat.zero_le _) ?_
  refine lv_iload_n hx hb dX4_is_6 rfl (lv_at hl 2 rfl) ?_
  refine lv_icmp_ne (tgt := 14) hx hb dX4_is_7 (by decide) (fun c_7 => ?_) (fun c_7 => ?_)
  · refine lv_iconst (v := 0) hx hb dX4_is_14 (by decide) ?_
    exact fin_z hx hb hr hlk (Or.inl rfl) (br_n c_7 rfl) dX4_is_15
  refine lv_iconst (v := 1) hx hb dX4_is_10 (by decide) ?_
  refine lv_goto (tgt := 15) hx hb dX4_is_11 (by decide) ?_
  exact fin_z hx hb hr hlk (Or.inr rfl) (br_p c_7 rfl) dX4_is_15
theorem kV_X4_is {R : Room} {s : State} {args : Array Value} {own : String} {idx : Nat} {c0 : Cond} (hts : ∀ w ∈ c0 :: W0, w.before args s = true) (hl : Cond.methodLink own idx yX4_is ∈ W0) (hR : rm_X4_is.frames + 1 ≤ R.frames ∧ 8 + (3 + 11) + rm_X4_is.locals ≤ R.locals) : CallW R s args own RX4 idx yX4_is cX4_is 3 (some .boolean) (Cond.code yX4_is cX4_is 3 (some .boolean) :: W0) rm_X4_is 0 0 2 := cwV 2 hts (gdV hl mi_yX4_is ms_yX4_is mini_X4 mc_yX4_is) rfl rfl rfl (by decide +kernel) hR

theorem z_X4_is {μ : Nat → Nat → Int32} {k : Nat} {y : Int32} : f_X4_is μ k y = 0 ∨ f_X4_is μ k y = 1 := by
  unfold f_X4_is
  (repeat' split) <;> first | exact Or.inl rfl | exact Or.inr rfl

theorem is_1 {μ : Nat → Nat → Int32} {k : Nat} {x : Int32} (h : ¬ f_X4_is μ k x = 0) : μ 0 (53 + 6 * k + 3) = x := by
  unfold f_X4_is at h
  split at h
  · assumption
  · exact absurd rfl h

/-! X4.worth -/
def f_X4_worth (μ : Nat → Nat → Int32) (t : Nat) (y : Int32) (z : Int32) : Int32 := (if (f_X4_current μ t) ≤ y then (((f_X4_price μ t) * (100 - (20 * z))) / 100) - (((((f_X4_price μ t) * (100 - (20 * z))) / 100) * (f_X4_lesser 100 ((μ 0 7) * 0))) / 100) else (((f_X4_price μ t) * (100 - (20 * z))) / 100) - (((((f_X4_price μ t) * (100 - (20 * z))) / 100) * (f_X4_lesser 100 ((μ 0 7) * ((f_X4_current μ t) - y)))) / 100))
abbrev rm_X4_worth : Room := { frames := 1, cells := 0, slots := 0, locals := 21 }
set_option maxRecDepth 100000 in
theorem c_X4_worth (l : Launch) (D : va_G) (cI : ClassId) (o : Nat) (a : Nat → Nat) (μ : Nat → Nat → Int32) (hh : Int64) (x : Int32) (t : Nat) (hx : x = nI t) (y : Int32) (z : Int32) (ht : t < 1000) :
    Met l yX4_worth (Cond.code yX4_worth cX4_worth 6 (some .int) :: W0) rm_X4_worth (va_Pc [.ref o, .int x, .int y, .int z] (moP D cI o a μ hh)) (vp_Si (fun r => r = f_X4_worth μ t y z)) 0 0 (fun _ => False) := by
  subst hx
  refine st_gen (cc := cX4_worth) (maxL := 6) (ret := some .int) (own := RX4) (by decide) rfl (Nat.le_of_ble_eq_true rfl) ?_
  intro p e s m below meth c ls C hPre hl
  obtain ⟨hx, hb, hr, hml, hown, hts, hlk⟩ := C
  obtain ⟨hP, hK⟩ := hPre
  have hl : lv_has ls 6 [(0, .ref (o)), (1, .int (nI t)), (2, .int (y)), (3, .int (z))] := hl
  refine lv_aload_n hx hb dX4_worth_0 rfl (lv_at hl 0 rfl) ?_
  refine lv_iload_n hx hb dX4_worth_1 rfl (lv_at hl 1 rfl) ?_
  refine mo_call (rest := []) hx hb hml hown hts hK hP (c_X4_price l D cI o a μ hh (nI t) t rfl (by first | with_reducible assumption | omega)) (kV_X4_price hts ml_X4_38 ⟨(Nat.le_of_ble_eq_true rfl), (Nat.le_of_ble_eq_true rfl)⟩) rfl hl.1 rfl (Nat.le_of_ble_eq_true rfl) dX4_worth_2 (Nat.zero_le _) (Nat.zero_le _) ?_
  refine lv_bipush (v := 100) hx hb dX4_worth_5 (by decide) ?_
  refine lv_bipush (v := 20) hx hb dX4_worth_7 (by decide) ?_
  refine lv_iload_n hx hb dX4_worth_9 rfl (lv_at hl 3 rfl) ?_
  refine lv_imul hx hb dX4_worth_10 ?_
  refine lv_isub hx hb dX4_worth_11 ?_
  refine lv_imul hx hb dX4_worth_12 ?_
  refine lv_bipush (v := 100) hx hb dX4_worth_13 (by decide) ?_
  refine lv_idiv hx hb dX4_worth_15 (by decide) ?_
  refine lv_istore (lv' := [(4, .int (((f_X4_price μ t) * (100 - (20 * z))) / 100)), (0, .ref (o)), (1, .int (nI t)), (2, .int (y)), (3, .int (z))]) hx hb dX4_worth_16 hl (by decide) rfl (fun ls hl => ?_)
  refine lv_iload_n hx hb dX4_worth_18 rfl (lv_at hl 3 rfl) ?_
  refine lv_aload_n hx hb dX4_worth_19 rfl (lv_at hl 1 rfl) ?_
  refine lv_iload_n hx hb dX4_worth_20 rfl (lv_at hl 2 rfl) ?_
  refine mo_call (rest := [.int (y)]) hx hb hml hown hts hK hP (c_X4_current l D cI o a μ hh (nI t) t rfl (by first | with_reducible assumption | omega)) (kV_X4_current hts ml_X4_42 ⟨(Nat.le_of_ble_eq_true rfl), (Nat.le_of_ble_eq_true rfl)⟩) rfl hl.1 rfl (Nat.le_of_ble_eq_true rfl) dX4_worth_21 (Nat.zero_le _) (Nat.zero_le _) ?_
  refine lv_icmp_ge (tgt := 37) hx hb dX4_worth_24 (by decide) (fun c_24 => ?_) (fun c_24 => ?_)
  · refine lv_iconst (v := 0) hx hb dX4_worth_37 (by decide) ?_
    refine lv_istore (lv' := [(5, .int (0)), (4, .int (((f_X4_price μ t) * (100 - (20 * z))) / 100)), (0, .ref (o)), (1, .int (nI t)), (2, .int (y)), (3, .int (z))]) hx hb dX4_worth_38 hl (by decide) rfl (fun ls hl => ?_)
    refine lv_iload hx hb dX4_worth_40 (lv_at hl 1 rfl) ?_
    refine lv_iload hx hb dX4_worth_42 (lv_at hl 1 rfl) ?_
    refine lv_bipush (v := 100) hx hb dX4_worth_44 (by decide) ?_
    refine lv_aload_n hx hb dX4_worth_46 rfl (lv_at hl 2 rfl) ?_
    refine mo_g0 hx hb hts hown hK hP dX4_worth_47 ?_
    refine lv_bipush (v := 7) hx hb dX4_worth_50 (by decide) ?_
    refine mo_r0 hx hb hK hP (7) rfl (by omega) (v := μ 0 7) rfl dX4_worth_52 ?_
    refine lv_iload hx hb dX4_worth_53 (lv_at hl 0 rfl) ?_
    refine lv_imul hx hb dX4_worth_55 ?_
    refine cl_S (rest := [.int (((f_X4_price μ t) * (100 - (20 * z))) / 100), .int (((f_X4_price μ t) * (100 - (20 * z))) / 100)]) hx hb hml hown hts (c_X4_lesser l 100 ((μ 0 7) * 0)) (kS_X4_lesser hts ml_X4_45 ⟨(Nat.le_of_ble_eq_true rfl), (Nat.le_of_ble_eq_true rfl)⟩) rfl hl.1 rfl (Nat.le_of_ble_eq_true rfl) dX4_worth_56 (Nat.zero_le _) (Nat.zero_le _) ?_
    refine lv_imul hx hb dX4_worth_59 ?_
    refine lv_bipush (v := 100) hx hb dX4_worth_60 (by decide) ?_
    refine lv_idiv hx hb dX4_worth_62 (by decide) ?_
    refine lv_isub hx hb dX4_worth_63 ?_
    exact fin_i hx hb hr hlk (br_p c_24 rfl) dX4_worth_64
  refine lv_aload_n hx hb dX4_worth_27 rfl (lv_at hl 1 rfl) ?_
  refine lv_iload_n hx hb dX4_worth_28 rfl (lv_at hl 2 rfl) ?_
  refine mo_call (rest := []) hx hb hml hown hts hK hP (c_X4_current l D cI o a μ hh (nI t) t rfl (by first | with_reducible assumption | omega)) (kV_X4_current hts ml_X4_42 ⟨(Nat.le_of_ble_eq_true rfl), (Nat.le_of_ble_eq_true rfl)⟩) rfl hl.1 rfl (Nat.le_of_ble_eq_true rfl) dX4_worth_29 (Nat.zero_le _) (Nat.zero_le _) ?_
  refine lv_iload_n hx hb dX4_worth_32 rfl (lv_at hl 3 rfl) ?_
  refine lv_isub hx hb dX4_worth_33 ?_
  refine lv_goto (tgt := 38) hx hb dX4_worth_34 (by decide) ?_
  refine lv_istore (lv' := [(5, .int ((f_X4_current μ t) - y)), (4, .int (((f_X4_price μ t) * (100 - (20 * z))) / 100)), (0, .ref (o)), (1, .int (nI t)), (2, .int (y)), (3, .int (z))]) hx hb dX4_worth_38 hl (by decide) rfl (fun ls hl => ?_)
  refine lv_iload hx hb dX4_worth_40 (lv_at hl 1 rfl) ?_
  refine lv_iload hx hb dX4_worth_42 (lv_at hl 1 rfl) ?_
  refine lv_bipush (v := 100) hx hb dX4_worth_44 (by decide) ?_
  refine lv_aload_n hx hb dX4_worth_46 rfl (lv_at hl 2 rfl) ?_
  refine mo_g0 hx hb hts hown hK hP dX4_worth_47 ?_
  refine lv_bipush (v := 7) hx hb dX4_worth_50 (by decide) ?_
  refine mo_r0 hx hb hK hP (7) rfl (by omega) (v := μ 0 7) rfl dX4_worth_52 ?_
  refine lv_iload hx hb dX4_worth_53 (lv_at hl 0 rfl) ?_
  refine lv_imul hx hb dX4_worth_55 ?_
  refine cl_S (rest := [.int (((f_X4_price μ t) * (100 - (20 * z))) / 100), .int (((f_X4_price μ t) * (100 - (20 * z))) / 100)]) hx hb hml hown hts (c_X4_lesser l 100 ((μ 0 7) * ((f_X4_current μ t) - y))) (kS_X4_lesser hts ml_X4_45 ⟨(Nat.le_of_ble_eq_true rfl), (Nat.le_of_ble_eq_true rfl)⟩) rfl hl.1 rfl (Nat.le_of_ble_eq_true rfl) dX4_worth_56 (Nat.zero_le _) (Nat.zero_le _) ?_
  refine lv_imul hx hb dX4_worth_59 ?_
  refine lv_bipush (v := 100) hx hb dX4_worth_60 (by decide) ?_
  refine lv_idiv hx hb dX4_worth_62 (by decide) ?_
  refine lv_isub hx hb dX4_worth_63 ?_
  exact fin_i hx hb hr hlk (br_n c_24 rfl) dX4_worth_64
theorem kV_X4_worth {R : Room} {s : State} {args : Array Value} {own : String} {idx : Nat} {c0 : Cond} (hts : ∀ w ∈ c0 :: W0, w.before args s = true) (hl : Cond.methodLink own idx yX4_worth ∈ W0) (hR : rm_X4_worth.frames + 1 ≤ R.frames ∧ 8 + (6 + 11) + rm_X4_worth.locals ≤ R.locals) : CallW R s args own RX4 idx yX4_worth cX4_worth 6 (some .int) (Cond.code yX4_worth cX4_worth 6 (some .int) :: W0) rm_X4_worth 0 0 3 := cwV 3 hts (gdV hl mi_yX4_worth ms_yX4_worth mini_X4 mc_yX4_worth) rfl rfl rfl (by decide +kernel) hR

/-! X4.worthOf -/
def f_X4_worthOf (μ : Nat → Nat → Int32) (k : Nat) : Int32 := (f_X4_worth μ (mt μ k) (f_X4_of μ k 1) (f_X4_of μ k 2))
abbrev rm_X4_worthOf : Room := { frames := 2, cells := 0, slots := 0, locals := 46 }
set_option maxRecDepth 100000 in
theorem c_X4_worthOf (l : Launch) (D : va_G) (cI : ClassId) (o : Nat) (a : Nat → Nat) (μ : Nat → Nat → Int32) (hh : Int64) (x : Int32) (k : Nat) (hx : x = nI k) (hok : okM μ) (hk : k < mN μ) :
    Met l yX4_worthOf (Cond.code yX4_worthOf cX4_worthOf 2 (some .int) :: W0) rm_X4_worthOf (va_Pc [.ref o, .int x] (moP D cI o a μ hh)) (vp_Si (fun r => r = f_X4_worthOf μ k)) 0 0 (fun _ => False) := by
  subst hx
  refine st_gen (cc := cX4_worthOf) (maxL := 2) (ret := some .int) (own := RX4) (by decide) rfl (Nat.le_of_ble_eq_true rfl) ?_
  intro p e s m below meth c ls C hPre hl
  obtain ⟨hx, hb, hr, hml, hown, hts, hlk⟩ := C
  obtain ⟨hP, hK⟩ := hPre
  have hl : lv_has ls 2 [(0, .ref (o)), (1, .int (nI k))] := hl
  obtain ⟨hT6, hC6, hN6, hS5⟩ := okM_b hok
  refine lv_aload_n hx hb dX4_worthOf_0 rfl (lv_at hl 0 rfl) ?_
  refine lv_aload_n hx hb dX4_worthOf_1 rfl (lv_at hl 0 rfl) ?_
  refine lv_iload_n hx hb dX4_worthOf_2 rfl (lv_at hl 1 rfl) ?_
  refine lv_iconst (v := 0) hx hb dX4_worthOf_3 (by decide) ?_
  refine mo_call (rest := [.ref (o)]) hx hb hml hown hts hK hP (c_X4_of l D cI o a μ hh (nI k) k rfl 0 0 rfl (by first | with_reducible assumption | omega)) (kV_X4_of hts ml_X4_34 ⟨(Nat.le_of_ble_eq_true rfl), (Nat.le_of_ble_eq_true rfl)⟩) rfl hl.1 rfl (Nat.le_of_ble_eq_true rfl) dX4_worthOf_4 (Nat.zero_le _) (Nat.zero_le _) ?_
  refine lv_aload_n hx hb dX4_worthOf_7 rfl (lv_at hl 0 rfl) ?_
  refine lv_iload_n hx hb dX4_worthOf_8 rfl (lv_at hl 1 rfl) ?_
  refine lv_iconst (v := 1) hx hb dX4_worthOf_9 (by decide) ?_
  refine mo_call (rest := [.int ((f_X4_of μ k 0)), .ref (o)]) hx hb hml hown hts hK hP (c_X4_of l D cI o a μ hh (nI k) k rfl 1 1 rfl (by first | with_reducible assumption | omega)) (kV_X4_of hts ml_X4_34 ⟨(Nat.le_of_ble_eq_true rfl), (Nat.le_of_ble_eq_true rfl)⟩) rfl hl.1 rfl (Nat.le_of_ble_eq_true rfl) dX4_worthOf_10 (Nat.zero_le _) (Nat.zero_le _) ?_
  refine lv_aload_n hx hb dX4_worthOf_13 rfl (lv_at hl 0 rfl) ?_
  refine lv_iload_n hx hb dX4_worthOf_14 rfl (lv_at hl 1 rfl) ?_
  refine lv_iconst (v := 2) hx hb dX4_worthOf_15 (by decide) ?_
  refine mo_call (rest := [.int ((f_X4_of μ k 1)), .int ((f_X4_of μ k 0)), .ref (o)]) hx hb hml hown hts hK hP (c_X4_of l D cI o a μ hh (nI k) k rfl 2 2 rfl (by first | with_reducible assumption | omega)) (kV_X4_of hts ml_X4_34 ⟨(Nat.le_of_ble_eq_true rfl), (Nat.le_of_ble_eq_true rfl)⟩) rfl hl.1 rfl (Nat.le_of_ble_eq_true rfl) dX4_worthOf_16 (Nat.zero_le _) (Nat.zero_le _) ?_
  have := (okM_t (μ := μ) (by with_reducible assumption) (k := k) (by omega)).2
  refine mo_call (rest := []) hx hb hml hown hts hK hP (c_X4_worth l D cI o a μ hh (f_X4_of μ k 0) (mt μ k) ((okM_t (μ := μ) (by with_reducible assumption) (k := k) (by omega)).1) (f_X4_of μ k 1) (f_X4_of μ k 2) (by first | with_reducible assumption | omega)) (kV_X4_worth hts ml_X4_48 ⟨(Nat.le_of_ble_eq_true rfl), (Nat.le_of_ble_eq_true rfl)⟩) rfl hl.1 rfl (Nat.le_of_ble_eq_true rfl) dX4_worthOf_19 (Nat.zero_le _) (Nat.zero_le _) ?_
  exact fin_i hx hb hr hlk rfl dX4_worthOf_22
theorem kV_X4_worthOf {R : Room} {s : State} {args : Array Value} {own : String} {idx : Nat} {c0 : Cond} (hts : ∀ w ∈ c0 :: W0, w.before args s = true) (hl : Cond.methodLink own idx yX4_worthOf ∈ W0) (hR : rm_X4_worthOf.frames + 1 ≤ R.frames ∧ 8 + (2 + 11) + rm_X4_worthOf.locals ≤ R.locals) : CallW R s args own RX4 idx yX4_worthOf cX4_worthOf 2 (some .int) (Cond.code yX4_worthOf cX4_worthOf 2 (some .int) :: W0) rm_X4_worthOf 0 0 1 := cwV 1 hts (gdV hl mi_yX4_worthOf ms_yX4_worthOf mini_X4 mc_yX4_worthOf) rfl rfl rfl (by decide +kernel) hR

/-! X4.isOfUse -/
def g_X4_isOfUse_5 (μ : Nat → Nat → Int32) (x : Int32) (y : Int32) : Nat → (Nat) → (Int32) → Int32
  | 0, k, x3 => x3
  | fu + 1, k, x3 => (if mC μ ≤ k then x3 else (if x3 = 0 then (if (f_X4_ofCourse μ k 0) = x then (if y < (f_X4_ofCourse μ k 1) then g_X4_isOfUse_5 μ x y fu (k + 1) 0 else g_X4_isOfUse_5 μ x y fu (k + 1) 1) else g_X4_isOfUse_5 μ x y fu (k + 1) 0) else g_X4_isOfUse_5 μ x y fu (k + 1) 1))
def f_X4_isOfUse (μ : Nat → Nat → Int32) (x : Int32) (y : Int32) : Int32 := (g_X4_isOfUse_5 μ x y (mC μ + 1) 0 0)
abbrev rm_X4_isOfUse : Room := { frames := 1, cells := 0, slots := 0, locals := 22 }
theorem zg_g_X4_isOfUse_5 {μ : Nat → Nat → Int32} {x y : Int32} : ∀ (fu k : Nat) (z : Int32), (z = 0 ∨ z = 1) → (g_X4_isOfUse_5 μ x y fu k z = 0 ∨ g_X4_isOfUse_5 μ x y fu k z = 1) := by
  intro fu
  induction fu with
  | zero => intro k z h; exact h
  | succ fu ih =>
    intro k z h
    rw [g_X4_isOfUse_5]
    (repeat' split) <;> first | exact h | exact ih _ _ (Or.inl rfl) | exact ih _ _ (Or.inr rfl) | exact ih _ _ h
set_option maxRecDepth 100000 in
theorem c_X4_isOfUse (l : Launch) (D : va_G) (cI : ClassId) (o : Nat) (a : Nat → Nat) (μ : Nat → Nat → Int32) (hh : Int64) (x : Int32) (y : Int32) (hok : okM μ) :
    Met l yX4_isOfUse (Cond.code yX4_isOfUse cX4_isOfUse 5 (some .boolean) :: W0) rm_X4_isOfUse (va_Pc [.ref o, .int x, .int y] (moP D cI o a μ hh)) (vp_Si (fun r => r = f_X4_isOfUse μ x y)) 0 0 (fun _ => False) := by
  refine st_gen (cc := cX4_isOfUse) (maxL := 5) (ret := some .boolean) (own := RX4) (by decide) rfl (Nat.le_of_ble_eq_true rfl) ?_
  intro p e s m below meth c ls C hPre hl
  obtain ⟨hx, hb, hr, hml, hown, hts, hlk⟩ := C
  obtain ⟨hP, hK⟩ := hPre
  have hl : lv_has ls 5 [(0, .ref (o)), (1, .int (x)), (2, .int (y))] := hl
  obtain ⟨hT6, hC6, hN6, hS5⟩ := okM_b hok
  refine lv_iconst (v := 0) hx hb dX4_isOfUse_0 (by decide) ?_
  refine lv_istore_n (lv' := [(3, .int (0)), (0, .ref (o)), (1, .int (x)), (2, .int (y))]) hx hb dX4_isOfUse_1 rfl hl (by decide) rfl (fun ls hl => ?_)
  refine lv_iconst (v := 0) hx hb dX4_isOfUse_2 (by decide) ?_
  refine lv_istore (lv' := [(4, .int (0)), (3, .int (0)), (0, .ref (o)), (1, .int (x)), (2, .int (y))]) hx hb dX4_isOfUse_3 hl (by decide) rfl (fun ls hl => ?_)
  have K_54 : ∀ ls, lv_has ls 5 [(0, .ref (o)), (1, .int (x)), (2, .int (y)), (3, .int ((g_X4_isOfUse_5 μ x y (mC μ + 1) 0 0)))] → W p l e rm_X4_isOfUse s m (([.ref (o), .int (x), .int (y)] : List Value).toArray) below meth c s.heap [] 0 0 (MQ below (vp_Si (fun r => r = f_X4_isOfUse μ x y)) ([.ref (o), .int (x), .int (y)] : List Value).toArray s 0 0 (fun _ => False)) (F0 m 54 ls []) := by
    intro ls hl
    refine lv_iload_n hx hb dX4_isOfUse_54 rfl (lv_at hl 3 rfl) ?_
    exact fin_z hx hb hr hlk (zg_g_X4_isOfUse_5 _ _ _ (Or.inl rfl)) rfl dX4_isOfUse_55
  have L_5 : ∀ (fu : Nat) (k : Nat) (x3 : Int32), mC μ - k < fu → k ≤ mC μ → g_X4_isOfUse_5 μ x y fu k x3 = g_X4_isOfUse_5 μ x y (mC μ + 1) 0 0 → ∀ ls, lv_has ls 5 [(0, .ref (o)), (1, .int (x)), (2, .int (y)), (4, .int (nI k)), (3, .int (x3))] → W p l e rm_X4_isOfUse s m (([.ref (o), .int (x), .int (y)] : List Value).toArray) below meth c s.heap [] 0 0 (MQ below (vp_Si (fun r => r = f_X4_isOfUse μ x y)) ([.ref (o), .int (x), .int (y)] : List Value).toArray s 0 0 (fun _ => False)) (F0 m 5 ls []) := by
    intro fu
    induction fu with
    | zero => intro k x3 hm; exact absurd hm (Nat.not_lt_zero _)
    | succ fu ih =>
      intro k x3 hm hkN hg_5 ls hl
      refine lv_iload hx hb dX4_isOfUse_5 (lv_at hl 3 rfl) ?_
      refine lv_aload_n hx hb dX4_isOfUse_7 rfl (lv_at hl 0 rfl) ?_
      refine mo_g0 hx hb hts hown hK hP dX4_isOfUse_8 ?_
      refine lv_iconst (v := 2) hx hb dX4_isOfUse_11 (by decide) ?_
      refine mo_r0 hx hb hK hP (2) rfl (by omega) (v := μ 0 2) rfl dX4_isOfUse_12 ?_
      refine lv_icmp_geN (k) (mC μ) hx hb rfl (okM_2 (μ := μ) (by with_reducible assumption)) (by omega) (by omega) (tgt := 54) dX4_isOfUse_13 (by decide) (fun c_13 => ?_) (fun c_13 => ?_)
      · have ex : x3 = g_X4_isOfUse_5 μ x y (mC μ + 1) 0 0 := ((br_p c_13 rfl) : x3 = g_X4_isOfUse_5 μ x y (fu + 1) k x3).trans hg_5
        exact K_54 ls (by rw [← ex]; exact lv_sub hl [0, 1, 2, 4] rfl)
      refine lv_iload_n hx hb dX4_isOfUse_16 rfl (lv_at hl 4 rfl) ?_
      refine lv_if_ne (tgt := 42) hx hb dX4_isOfUse_17 (by decide) (fun c_17 => ?_) (fun c_17 => ?_)
      · refine lv_iconst (v := 1) hx hb dX4_isOfUse_42 (by decide) ?_
        refine lv_goto (tgt := 47) hx hb dX4_isOfUse_43 (by decide) ?_
        refine lv_istore_n (lv' := [(3, .int (1)), (0, .ref (o)), (1, .int (x)), (2, .int (y)), (4, .int (nI k))]) hx hb dX4_isOfUse_47 rfl hl (by decide) rfl (fun ls hl => ?_)
        refine lv_iinc (v := nI (k + 1)) (lv' := [(4, .int (nI (k + 1))), (3, .int (1)), (0, .ref (o)), (1, .int (x)), (2, .int (y))]) hx hb dX4_isOfUse_48 hl (k := 4) rfl (nI_c1 _) (by decide) rfl (fun ls hl => ?_)
        refine lv_goto (tgt := 5) hx hb dX4_isOfUse_51 (by decide) ?_
        exact ih (k + 1) 1 (by omega) (by omega) (((br_n c_13 (br_n c_17 rfl)) : g_X4_isOfUse_5 μ x y fu (k + 1) 1 = g_X4_isOfUse_5 μ x y (fu + 1) k x3).trans hg_5) ls (lv_sub hl [2, 3, 4, 0, 1] rfl)
      refine lv_aload_n hx hb dX4_isOfUse_20 rfl (lv_at hl 0 rfl) ?_
      refine lv_iload hx hb dX4_isOfUse_21 (lv_at hl 3 rfl) ?_
      refine lv_iconst (v := 0) hx hb dX4_isOfUse_23 (by decide) ?_
      refine mo_call (rest := []) hx hb hml hown hts hK hP (c_X4_ofCourse l D cI o a μ hh (nI k) k rfl 0 0 rfl (by first | with_reducible assumption | omega)) (kV_X4_ofCourse hts ml_X4_52 ⟨(Nat.le_of_ble_eq_true rfl), (Nat.le_of_ble_eq_true rfl)⟩) rfl hl.1 rfl (Nat.le_of_ble_eq_true rfl) dX4_isOfUse_24 (Nat.zero_le _) (Nat.zero_le _) ?_
      refine lv_iload_n hx hb dX4_isOfUse_27 rfl (lv_at hl 1 rfl) ?_
      refine lv_icmp_ne (tgt := 46) hx hb dX4_isOfUse_28 (by decide) (fun c_28 => ?_) (fun c_28 => ?_)
      · refine lv_iconst (v := 0) hx hb dX4_isOfUse_46 (by decide) ?_
        refine lv_istore_n (lv' := [(3, .int (0)), (0, .ref (o)), (1, .int (x)), (2, .int (y)), (4, .int (nI k))]) hx hb dX4_isOfUse_47 rfl hl (by decide) rfl (fun ls hl => ?_)
        refine lv_iinc (v := nI (k + 1)) (lv' := [(4, .int (nI (k + 1))), (3, .int (0)), (0, .ref (o)), (1, .int (x)), (2, .int (y))]) hx hb dX4_isOfUse_48 hl (k := 4) rfl (nI_c1 _) (by decide) rfl (fun ls hl => ?_)
        refine lv_goto (tgt := 5) hx hb dX4_isOfUse_51 (by decide) ?_
        exact ih (k + 1) 0 (by omega) (by omega) (((br_n c_13 (br_p c_17 (br_n c_28 rfl))) : g_X4_isOfUse_5 μ x y fu (k + 1) 0 = g_X4_isOfUse_5 μ x y (fu + 1) k x3).trans hg_5) ls (lv_sub hl [2, 3, 4, 0, 1] rfl)
      refine lv_iload_n hx hb dX4_isOfUse_31 rfl (lv_at hl 2 rfl) ?_
      refine lv_aload_n hx hb dX4_isOfUse_32 rfl (lv_at hl 0 rfl) ?_
      refine lv_iload hx hb dX4_isOfUse_33 (lv_at hl 3 rfl) ?_
      refine lv_iconst (v := 1) hx hb dX4_isOfUse_35 (by decide) ?_
      refine mo_call (rest := [.int (y)]) hx hb hml hown hts hK hP (c_X4_ofCourse l D cI o a μ hh (nI k) k rfl 1 1 rfl (by first | with_reducible assumption | omega)) (kV_X4_ofCourse hts ml_X4_52 ⟨(Nat.le_of_ble_eq_true rfl), (Nat.le_of_ble_eq_true rfl)⟩) rfl hl.1 rfl (Nat.le_of_ble_eq_true rfl) dX4_isOfUse_36 (Nat.zero_le _) (Nat.zero_le _) ?_
      refine lv_icmp_lt (tgt := 46) hx hb dX4_isOfUse_39 (by decide) (fun c_39 => ?_) (fun c_39 => ?_)
      · refine lv_iconst (v := 0) hx hb dX4_isOfUse_46 (by decide) ?_
        refine lv_istore_n (lv' := [(3, .int (0)), (0, .ref (o)), (1, .int (x)), (2, .int (y)), (4, .int (nI k))]) hx hb dX4_isOfUse_47 rfl hl (by decide) rfl (fun ls hl => ?_)
        refine lv_iinc (v := nI (k + 1)) (lv' := [(4, .int (nI (k + 1))), (3, .int (0)), (0, .ref (o)), (1, .int (x)), (2, .int (y))]) hx hb dX4_isOfUse_48 hl (k := 4) rfl (nI_c1 _) (by decide) rfl (fun ls hl => ?_)
        refine lv_goto (tgt := 5) hx hb dX4_isOfUse_51 (by decide) ?_
        exact ih (k + 1) 0 (by omega) (by omega) (((br_n c_13 (br_p c_17 (br_p c_28 (br_p c_39 rfl)))) : g_X4_isOfUse_5 μ x y fu (k + 1) 0 = g_X4_isOfUse_5 μ x y (fu + 1) k x3).trans hg_5) ls (lv_sub hl [2, 3, 4, 0, 1] rfl)
      refine lv_iconst (v := 1) hx hb dX4_isOfUse_42 (by decide) ?_
      refine lv_goto (tgt := 47) hx hb dX4_isOfUse_43 (by decide) ?_
      refine lv_istore_n (lv' := [(3, .int (1)), (0, .ref (o)), (1, .int (x)), (2, .int (y)), (4, .int (nI k))]) hx hb dX4_isOfUse_47 rfl hl (by decide) rfl (fun ls hl => ?_)
      refine lv_iinc (v := nI (k + 1)) (lv' := [(4, .int (nI (k + 1))), (3, .int (1)), (0, .ref (o)), (1, .int (x)), (2, .int (y))]) hx hb dX4_isOfUse_48 hl (k := 4) rfl (nI_c1 _) (by decide) rfl (fun ls hl => ?_)
      refine lv_goto (tgt := 5) hx hb dX4_isOfUse_51 (by decide) ?_
      exact ih (k + 1) 1 (by omega) (by omega) (((br_n c_13 (br_p c_17 (br_p c_28 (br_n c_39 rfl)))) : g_X4_isOfUse_5 μ x y fu (k + 1) 1 = g_X4_isOfUse_5 μ x y (fu + 1) k x3).trans hg_5) ls (lv_sub hl [2, 3, 4, 0, 1] rfl)
  exact L_5 (mC μ + 1) 0 0 (by omega) (by omega) rfl ls (lv_sub hl [2, 3, 4, 0, 1] rfl)
theorem kV_X4_isOfUse {R : Room} {s : State} {args : Array Value} {own : String} {idx : Nat} {c0 : Cond} (hts : ∀ w ∈ c0 :: W0, w.before args s = true) (hl : Cond.methodLink own idx yX4_isOfUse ∈ W0) (hR : rm_X4_isOfUse.frames + 1 ≤ R.frames ∧ 8 + (5 + 11) + rm_X4_isOfUse.locals ≤ R.locals) : CallW R s args own RX4 idx yX4_isOfUse cX4_isOfUse 5 (some .boolean) (Cond.code yX4_isOfUse cX4_isOfUse 5 (some .boolean) :: W0) rm_X4_isOfUse 0 0 2 := cwV 2 hts (gdV hl mi_yX4_isOfUse ms_yX4_isOfUse mini_X4 mc_yX4_isOfUse) rfl rfl rfl (by decide +kernel) hR

theorem z_X4_isOfUse {μ : Nat → Nat → Int32} {x : Int32} {y : Int32} : f_X4_isOfUse μ x y = 0 ∨ f_X4_isOfUse μ x y = 1 := zg_g_X4_isOfUse_5 _ _ _ (Or.inl rfl)

/-! X4.demand -/
def g_X4_demand_4 (μ : Nat → Nat → Int32) (x : Int32) : Nat → (Nat) → (Int32) → Int32
  | 0, k, x2 => x2
  | fu + 1, k, x2 => (if mC μ ≤ k then x2 else (if (f_X4_ofCourse μ k 0) = x then g_X4_demand_4 μ x fu (k + 1) (x2 + (f_X4_ofCourse μ k 2)) else g_X4_demand_4 μ x fu (k + 1) (x2 + 0)))
def f_X4_demand (μ : Nat → Nat → Int32) (x : Int32) : Int32 := (g_X4_demand_4 μ x (mC μ + 1) 0 0)
abbrev rm_X4_demand : Room := { frames := 1, cells := 0, slots := 0, locals := 22 }
set_option maxRecDepth 100000 in
theorem c_X4_demand (l : Launch) (D : va_G) (cI : ClassId) (o : Nat) (a : Nat → Nat) (μ : Nat → Nat → Int32) (hh : Int64) (x : Int32) (hok : okM μ) :
    Met l yX4_demand (Cond.code yX4_demand cX4_demand 4 (some .int) :: W0) rm_X4_demand (va_Pc [.ref o, .int x] (moP D cI o a μ hh)) (vp_Si (fun r => r = f_X4_demand μ x)) 0 0 (fun _ => False) := by
  refine st_gen (cc := cX4_demand) (maxL := 4) (ret := some .int) (own := RX4) (by decide) rfl (Nat.le_of_ble_eq_true rfl) ?_
  intro p e s m below meth c ls C hPre hl
  obtain ⟨hx, hb, hr, hml, hown, hts, hlk⟩ := C
  obtain ⟨hP, hK⟩ := hPre
  have hl : lv_has ls 4 [(0, .ref (o)), (1, .int (x))] := hl
  obtain ⟨hT6, hC6, hN6, hS5⟩ := okM_b hok
  refine lv_iconst (v := 0) hx hb dX4_demand_0 (by decide) ?_
  refine lv_istore_n (lv' := [(2, .int (0)), (0, .ref (o)), (1, .int (x))]) hx hb dX4_demand_1 rfl hl (by decide) rfl (fun ls hl => ?_)
  refine lv_iconst (v := 0) hx hb dX4_demand_2 (by decide) ?_
  refine lv_istore_n (lv' := [(3, .int (0)), (2, .int (0)), (0, .ref (o)), (1, .int (x))]) hx hb dX4_demand_3 rfl hl (by decide) rfl (fun ls hl => ?_)
  have K_43 : ∀ ls, lv_has ls 4 [(0, .ref (o)), (1, .int (x)), (2, .int ((g_X4_demand_4 μ x (mC μ + 1) 0 0)))] → W p l e rm_X4_demand s m (([.ref (o), .int (x)] : List Value).toArray) below meth c s.heap [] 0 0 (MQ below (vp_Si (fun r => r = f_X4_demand μ x)) ([.ref (o), .int (x)] : List Value).toArray s 0 0 (fun _ => False)) (F0 m 43 ls []) := by
    intro ls hl
    refine lv_iload_n hx hb dX4_demand_43 rfl (lv_at hl 2 rfl) ?_
    exact fin_i hx hb hr hlk rfl dX4_demand_44
  have L_4 : ∀ (fu : Nat) (k : Nat) (x2 : Int32), mC μ - k < fu → k ≤ mC μ → g_X4_demand_4 μ x fu k x2 = g_X4_demand_4 μ x (mC μ + 1) 0 0 → ∀ ls, lv_has ls 4 [(0, .ref (o)), (1, .int (x)), (3, .int (nI k)), (2, .int (x2))] → W p l e rm_X4_demand s m (([.ref (o), .int (x)] : List Value).toArray) below meth c s.heap [] 0 0 (MQ below (vp_Si (fun r => r = f_X4_demand μ x)) ([.ref (o), .int (x)] : List Value).toArray s 0 0 (fun _ => False)) (F0 m 4 ls []) := by
    intro fu
    induction fu with
    | zero => intro k x2 hm; exact absurd hm (Nat.not_lt_zero _)
    | succ fu ih =>
      intro k x2 hm hkN hg_4 ls hl
      refine lv_iload_n hx hb dX4_demand_4 rfl (lv_at hl 2 rfl) ?_
      refine lv_aload_n hx hb dX4_demand_5 rfl (lv_at hl 0 rfl) ?_
      refine mo_g0 hx hb hts hown hK hP dX4_demand_6 ?_
      refine lv_iconst (v := 2) hx hb dX4_demand_9 (by decide) ?_
      refine mo_r0 hx hb hK hP (2) rfl (by omega) (v := μ 0 2) rfl dX4_demand_10 ?_
      refine lv_icmp_geN (k) (mC μ) hx hb rfl (okM_2 (μ := μ) (by with_reducible assumption)) (by omega) (by omega) (tgt := 43) dX4_demand_11 (by decide) (fun c_11 => ?_) (fun c_11 => ?_)
      · have ex : x2 = g_X4_demand_4 μ x (mC μ + 1) 0 0 := ((br_p c_11 rfl) : x2 = g_X4_demand_4 μ x (fu + 1) k x2).trans hg_4
        exact K_43 ls (by rw [← ex]; exact lv_sub hl [0, 1, 3] rfl)
      refine lv_iload_n hx hb dX4_demand_14 rfl (lv_at hl 3 rfl) ?_
      refine lv_aload_n hx hb dX4_demand_15 rfl (lv_at hl 0 rfl) ?_
      refine lv_iload_n hx hb dX4_demand_16 rfl (lv_at hl 2 rfl) ?_
      refine lv_iconst (v := 0) hx hb dX4_demand_17 (by decide) ?_
      refine mo_call (rest := [.int (x2)]) hx hb hml hown hts hK hP (c_X4_ofCourse l D cI o a μ hh (nI k) k rfl 0 0 rfl (by first | with_reducible assumption | omega)) (kV_X4_ofCourse hts ml_X4_52 ⟨(Nat.le_of_ble_eq_true rfl), (Nat.le_of_ble_eq_true rfl)⟩) rfl hl.1 rfl (Nat.le_of_ble_eq_true rfl) dX4_demand_18 (Nat.zero_le _) (Nat.zero_le _) ?_
      refine lv_iload_n hx hb dX4_demand_21 rfl (lv_at hl 1 rfl) ?_
      refine lv_icmp_ne (tgt := 34) hx hb dX4_demand_22 (by decide) (fun c_22 => ?_) (fun c_22 => ?_)
      · refine lv_iconst (v := 0) hx hb dX4_demand_34 (by decide) ?_
        refine lv_iadd hx hb dX4_demand_35 ?_
        refine lv_istore_n (lv' := [(2, .int (x2 + 0)), (0, .ref (o)), (1, .int (x)), (3, .int (nI k))]) hx hb dX4_demand_36 rfl hl (by decide) rfl (fun ls hl => ?_)
        refine lv_iinc (v := nI (k + 1)) (lv' := [(3, .int (nI (k + 1))), (2, .int (x2 + 0)), (0, .ref (o)), (1, .int (x))]) hx hb dX4_demand_37 hl (k := 3) rfl (nI_c1 _) (by decide) rfl (fun ls hl => ?_)
        refine lv_goto (tgt := 4) hx hb dX4_demand_40 (by decide) ?_
        exact ih (k + 1) (x2 + 0) (by omega) (by omega) (((br_n c_11 (br_n c_22 rfl)) : g_X4_demand_4 μ x fu (k + 1) (x2 + 0) = g_X4_demand_4 μ x (fu + 1) k x2).trans hg_4) ls (lv_sub hl [2, 3, 0, 1] rfl)
      refine lv_aload_n hx hb dX4_demand_25 rfl (lv_at hl 0 rfl) ?_
      refine lv_iload_n hx hb dX4_demand_26 rfl (lv_at hl 2 rfl) ?_
      refine lv_iconst (v := 2) hx hb dX4_demand_27 (by decide) ?_
      refine mo_call (rest := [.int (x2)]) hx hb hml hown hts hK hP (c_X4_ofCourse l D cI o a μ hh (nI k) k rfl 2 2 rfl (by first | with_reducible assumption | omega)) (kV_X4_ofCourse hts ml_X4_52 ⟨(Nat.le_of_ble_eq_true rfl), (Nat.le_of_ble_eq_true rfl)⟩) rfl hl.1 rfl (Nat.le_of_ble_eq_true rfl) dX4_demand_28 (Nat.zero_le _) (Nat.zero_le _) ?_
      refine lv_goto (tgt := 35) hx hb dX4_demand_31 (by decide) ?_
      refine lv_iadd hx hb dX4_demand_35 ?_
      refine lv_istore_n (lv' := [(2, .int (x2 + (f_X4_ofCourse μ k 2))), (0, .ref (o)), (1, .int (x)), (3, .int (nI k))]) hx hb dX4_demand_36 rfl hl (by decide) rfl (fun ls hl => ?_)
      refine lv_iinc (v := nI (k + 1)) (lv' := [(3, .int (nI (k + 1))), (2, .int (x2 + (f_X4_ofCourse μ k 2))), (0, .ref (o)), (1, .int (x))]) hx hb dX4_demand_37 hl (k := 3) rfl (nI_c1 _) (by decide) rfl (fun ls hl => ?_)
      refine lv_goto (tgt := 4) hx hb dX4_demand_40 (by decide) ?_
      exact ih (k + 1) (x2 + (f_X4_ofCourse μ k 2)) (by omega) (by omega) (((br_n c_11 (br_p c_22 rfl)) : g_X4_demand_4 μ x fu (k + 1) (x2 + (f_X4_ofCourse μ k 2)) = g_X4_demand_4 μ x (fu + 1) k x2).trans hg_4) ls (lv_sub hl [2, 3, 0, 1] rfl)
  exact L_4 (mC μ + 1) 0 0 (by omega) (by omega) rfl ls (lv_sub hl [2, 3, 0, 1] rfl)
theorem kV_X4_demand {R : Room} {s : State} {args : Array Value} {own : String} {idx : Nat} {c0 : Cond} (hts : ∀ w ∈ c0 :: W0, w.before args s = true) (hl : Cond.methodLink own idx yX4_demand ∈ W0) (hR : rm_X4_demand.frames + 1 ≤ R.frames ∧ 8 + (4 + 11) + rm_X4_demand.locals ≤ R.locals) : CallW R s args own RX4 idx yX4_demand cX4_demand 4 (some .int) (Cond.code yX4_demand cX4_demand 4 (some .int) :: W0) rm_X4_demand 0 0 1 := cwV 1 hts (gdV hl mi_yX4_demand ms_yX4_demand mini_X4 mc_yX4_demand) rfl rfl rfl (by decide +kernel) hR

/-! X4.supply -/
def g_X4_supply_4 (μ : Nat → Nat → Int32) (x : Int32) : Nat → (Nat) → (Int32) → Int32
  | 0, k, x2 => x2
  | fu + 1, k, x2 => (if mN μ ≤ k then x2 else (if (f_X4_of μ k 0) = x then (if (f_X4_is μ k 0) = 0 then (if (f_X4_is μ k 1) = 0 then g_X4_supply_4 μ x fu (k + 1) (x2 + 0) else (if (f_X4_isOfUse μ x (f_X4_of μ k 1)) = 0 then g_X4_supply_4 μ x fu (k + 1) (x2 + 0) else g_X4_supply_4 μ x fu (k + 1) (x2 + 1))) else (if (f_X4_isOfUse μ x (f_X4_of μ k 1)) = 0 then g_X4_supply_4 μ x fu (k + 1) (x2 + 0) else g_X4_supply_4 μ x fu (k + 1) (x2 + 1))) else g_X4_supply_4 μ x fu (k + 1) (x2 + 0)))
def f_X4_supply (μ : Nat → Nat → Int32) (x : Int32) : Int32 := (g_X4_supply_4 μ x (mN μ + 1) 0 0)
abbrev rm_X4_supply : Room := { frames := 2, cells := 0, slots := 0, locals := 46 }
set_option maxRecDepth 100000 in
theorem c_X4_supply (l : Launch) (D : va_G) (cI : ClassId) (o : Nat) (a : Nat → Nat) (μ : Nat → Nat → Int32) (hh : Int64) (x : Int32) (hok : okM μ) :
    Met l yX4_supply (Cond.code yX4_supply cX4_supply 4 (some .int) :: W0) rm_X4_supply (va_Pc [.ref o, .int x] (moP D cI o a μ hh)) (vp_Si (fun r => r = f_X4_supply μ x)) 0 0 (fun _ => False) := by
  refine st_gen (cc := cX4_supply) (maxL := 4) (ret := some .int) (own := RX4) (by decide) rfl (Nat.le_of_ble_eq_true rfl) ?_
  intro p e s m below meth c ls C hPre hl
  obtain ⟨hx, hb, hr, hml, hown, hts, hlk⟩ := C
  obtain ⟨hP, hK⟩ := hPre
  have hl : lv_has ls 4 [(0, .ref (o)), (1, .int (x))] := hl
  obtain ⟨hT6, hC6, hN6, hS5⟩ := okM_b hok
  refine lv_iconst (v := 0) hx hb dX4_supply_0 (by decide) ?_
  refine lv_istore_n (lv' := [(2, .int (0)), (0, .ref (o)), (1, .int (x))]) hx hb dX4_supply_1 rfl hl (by decide) rfl (fun ls hl => ?_)
  refine lv_iconst (v := 0) hx hb dX4_supply_2 (by decide) ?_
  refine lv_istore_n (lv' := [(3, .int (0)), (2, .int (0)), (0, .ref (o)), (1, .int (x))]) hx hb dX4_supply_3 rfl hl (by decide) rfl (fun ls hl => ?_)
  have K_70 : ∀ ls, lv_has ls 4 [(0, .ref (o)), (1, .int (x)), (2, .int ((g_X4_supply_4 μ x (mN μ + 1) 0 0)))] → W p l e rm_X4_supply s m (([.ref (o), .int (x)] : List Value).toArray) below meth c s.heap [] 0 0 (MQ below (vp_Si (fun r => r = f_X4_supply μ x)) ([.ref (o), .int (x)] : List Value).toArray s 0 0 (fun _ => False)) (F0 m 70 ls []) := by
    intro ls hl
    refine lv_iload_n hx hb dX4_supply_70 rfl (lv_at hl 2 rfl) ?_
    exact fin_i hx hb hr hlk rfl dX4_supply_71
  have L_4 : ∀ (fu : Nat) (k : Nat) (x2 : Int32), mN μ - k < fu → k ≤ mN μ → g_X4_supply_4 μ x fu k x2 = g_X4_supply_4 μ x (mN μ + 1) 0 0 → ∀ ls, lv_has ls 4 [(0, .ref (o)), (1, .int (x)), (3, .int (nI k)), (2, .int (x2))] → W p l e rm_X4_supply s m (([.ref (o), .int (x)] : List Value).toArray) below meth c s.heap [] 0 0 (MQ below (vp_Si (fun r => r = f_X4_supply μ x)) ([.ref (o), .int (x)] : List Value).toArray s 0 0 (fun _ => False)) (F0 m 4 ls []) := by
    intro fu
    induction fu with
    | zero => intro k x2 hm; exact absurd hm (Nat.not_lt_zero _)
    | succ fu ih =>
      intro k x2 hm hkN hg_4 ls hl
      refine lv_iload_n hx hb dX4_supply_4 rfl (lv_at hl 2 rfl) ?_
      refine lv_aload_n hx hb dX4_supply_5 rfl (lv_at hl 0 rfl) ?_
      refine mo_g0 hx hb hts hown hK hP dX4_supply_6 ?_
      refine lv_iconst (v := 1) hx hb dX4_supply_9 (by decide) ?_
      refine mo_r0 hx hb hK hP (1) rfl (by omega) (v := μ 0 1) rfl dX4_supply_10 ?_
      refine lv_icmp_geN (k) (mN μ) hx hb rfl (show okN μ by first | with_reducible assumption | exact okM_1 (by with_reducible assumption)).1 (by omega) (by omega) (tgt := 70) dX4_supply_11 (by decide) (fun c_11 => ?_) (fun c_11 => ?_)
      · have ex : x2 = g_X4_supply_4 μ x (mN μ + 1) 0 0 := ((br_p c_11 rfl) : x2 = g_X4_supply_4 μ x (fu + 1) k x2).trans hg_4
        exact K_70 ls (by rw [← ex]; exact lv_sub hl [0, 1, 3] rfl)
      refine lv_iload_n hx hb dX4_supply_14 rfl (lv_at hl 3 rfl) ?_
      refine lv_aload_n hx hb dX4_supply_15 rfl (lv_at hl 0 rfl) ?_
      refine lv_iload_n hx hb dX4_supply_16 rfl (lv_at hl 2 rfl) ?_
      refine lv_iconst (v := 0) hx hb dX4_supply_17 (by decide) ?_
      refine mo_call (rest := [.int (x2)]) hx hb hml hown hts hK hP (c_X4_of l D cI o a μ hh (nI k) k rfl 0 0 rfl (by first | with_reducible assumption | omega)) (kV_X4_of hts ml_X4_34 ⟨(Nat.le_of_ble_eq_true rfl), (Nat.le_of_ble_eq_true rfl)⟩) rfl hl.1 rfl (Nat.le_of_ble_eq_true rfl) dX4_supply_18 (Nat.zero_le _) (Nat.zero_le _) ?_
      refine lv_iload_n hx hb dX4_supply_21 rfl (lv_at hl 1 rfl) ?_
      refine lv_icmp_ne (tgt := 61) hx hb dX4_supply_22 (by decide) (fun c_22 => ?_) (fun c_22 => ?_)
      · refine lv_iconst (v := 0) hx hb dX4_supply_61 (by decide) ?_
        refine lv_iadd hx hb dX4_supply_62 ?_
        refine lv_istore_n (lv' := [(2, .int (x2 + 0)), (0, .ref (o)), (1, .int (x)), (3, .int (nI k))]) hx hb dX4_supply_63 rfl hl (by decide) rfl (fun ls hl => ?_)
        refine lv_iinc (v := nI (k + 1)) (lv' := [(3, .int (nI (k + 1))), (2, .int (x2 + 0)), (0, .ref (o)), (1, .int (x))]) hx hb dX4_supply_64 hl (k := 3) rfl (nI_c1 _) (by decide) rfl (fun ls hl => ?_)
        refine lv_goto (tgt := 4) hx hb dX4_supply_67 (by decide) ?_
        exact ih (k + 1) (x2 + 0) (by omega) (by omega) (((br_n c_11 (br_n c_22 rfl)) : g_X4_supply_4 μ x fu (k + 1) (x2 + 0) = g_X4_supply_4 μ x (fu + 1) k x2).trans hg_4) ls (lv_sub hl [2, 3, 0, 1] rfl)
      refine lv_aload_n hx hb dX4_supply_25 rfl (lv_at hl 0 rfl) ?_
      refine lv_iload_n hx hb dX4_supply_26 rfl (lv_at hl 2 rfl) ?_
      refine lv_iconst (v := 0) hx hb dX4_supply_27 (by decide) ?_
      refine mo_call (rest := [.int (x2)]) hx hb hml hown hts hK hP (c_X4_is l D cI o a μ hh (nI k) k rfl 0 (by first | with_reducible assumption | omega)) (kV_X4_is hts ml_X4_55 ⟨(Nat.le_of_ble_eq_true rfl), (Nat.le_of_ble_eq_true rfl)⟩) rfl hl.1 rfl (Nat.le_of_ble_eq_true rfl) dX4_supply_28 (Nat.zero_le _) (Nat.zero_le _) ?_
      refine lv_if_ne (tgt := 43) hx hb dX4_supply_31 (by decide) (fun c_31 => ?_) (fun c_31 => ?_)
      · refine lv_aload_n hx hb dX4_supply_43 rfl (lv_at hl 0 rfl) ?_
        refine lv_iload_n hx hb dX4_supply_44 rfl (lv_at hl 1 rfl) ?_
        refine lv_aload_n hx hb dX4_supply_45 rfl (lv_at hl 0 rfl) ?_
        refine lv_iload_n hx hb dX4_supply_46 rfl (lv_at hl 2 rfl) ?_
        refine lv_iconst (v := 1) hx hb dX4_supply_47 (by decide) ?_
        refine mo_call (rest := [.int (x), .ref (o), .int (x2)]) hx hb hml hown hts hK hP (c_X4_of l D cI o a μ hh (nI k) k rfl 1 1 rfl (by first | with_reducible assumption | omega)) (kV_X4_of hts ml_X4_34 ⟨(Nat.le_of_ble_eq_true rfl), (Nat.le_of_ble_eq_true rfl)⟩) rfl hl.1 rfl (Nat.le_of_ble_eq_true rfl) dX4_supply_48 (Nat.zero_le _) (Nat.zero_le _) ?_
        refine mo_call (rest := [.int (x2)]) hx hb hml hown hts hK hP (c_X4_isOfUse l D cI o a μ hh x (f_X4_of μ k 1) (by with_reducible assumption)) (kV_X4_isOfUse hts ml_X4_59 ⟨(Nat.le_of_ble_eq_true rfl), (Nat.le_of_ble_eq_true rfl)⟩) rfl hl.1 rfl (Nat.le_of_ble_eq_true rfl) dX4_supply_51 (Nat.zero_le _) (Nat.zero_le _) ?_
        refine lv_if_eq (tgt := 61) hx hb dX4_supply_54 (by decide) (fun c_54 => ?_) (fun c_54 => ?_)
        · refine lv_iconst (v := 0) hx hb dX4_supply_61 (by decide) ?_
          refine lv_iadd hx hb dX4_supply_62 ?_
          refine lv_istore_n (lv' := [(2, .int (x2 + 0)), (0, .ref (o)), (1, .int (x)), (3, .int (nI k))]) hx hb dX4_supply_63 rfl hl (by decide) rfl (fun ls hl => ?_)
          refine lv_iinc (v := nI (k + 1)) (lv' := [(3, .int (nI (k + 1))), (2, .int (x2 + 0)), (0, .ref (o)), (1, .int (x))]) hx hb dX4_supply_64 hl (k := 3) rfl (nI_c1 _) (by decide) rfl (fun ls hl => ?_)
          refine lv_goto (tgt := 4) hx hb dX4_supply_67 (by decide) ?_
          exact ih (k + 1) (x2 + 0) (by omega) (by omega) (((br_n c_11 (br_p c_22 (br_n c_31 (br_p c_54 rfl)))) : g_X4_supply_4 μ x fu (k + 1) (x2 + 0) = g_X4_supply_4 μ x (fu + 1) k x2).trans hg_4) ls (lv_sub hl [2, 3, 0, 1] rfl)
        refine lv_iconst (v := 1) hx hb dX4_supply_57 (by decide) ?_
        refine lv_goto (tgt := 62) hx hb dX4_supply_58 (by decide) ?_
        refine lv_iadd hx hb dX4_supply_62 ?_
        refine lv_istore_n (lv' := [(2, .int (x2 + 1)), (0, .ref (o)), (1, .int (x)), (3, .int (nI k))]) hx hb dX4_supply_63 rfl hl (by decide) rfl (fun ls hl => ?_)
        refine lv_iinc (v := nI (k + 1)) (lv' := [(3, .int (nI (k + 1))), (2, .int (x2 + 1)), (0, .ref (o)), (1, .int (x))]) hx hb dX4_supply_64 hl (k := 3) rfl (nI_c1 _) (by decide) rfl (fun ls hl => ?_)
        refine lv_goto (tgt := 4) hx hb dX4_supply_67 (by decide) ?_
        exact ih (k + 1) (x2 + 1) (by omega) (by omega) (((br_n c_11 (br_p c_22 (br_n c_31 (br_n c_54 rfl)))) : g_X4_supply_4 μ x fu (k + 1) (x2 + 1) = g_X4_supply_4 μ x (fu + 1) k x2).trans hg_4) ls (lv_sub hl [2, 3, 0, 1] rfl)
      refine lv_aload_n hx hb dX4_supply_34 rfl (lv_at hl 0 rfl) ?_
      refine lv_iload_n hx hb dX4_supply_35 rfl (lv_at hl 2 rfl) ?_
      refine lv_iconst (v := 1) hx hb dX4_supply_36 (by decide) ?_
      refine mo_call (rest := [.int (x2)]) hx hb hml hown hts hK hP (c_X4_is l D cI o a μ hh (nI k) k rfl 1 (by first | with_reducible assumption | omega)) (kV_X4_is hts ml_X4_55 ⟨(Nat.le_of_ble_eq_true rfl), (Nat.le_of_ble_eq_true rfl)⟩) rfl hl.1 rfl (Nat.le_of_ble_eq_true rfl) dX4_supply_37 (Nat.zero_le _) (Nat.zero_le _) ?_
      refine lv_if_eq (tgt := 61) hx hb dX4_supply_40 (by decide) (fun c_40 => ?_) (fun c_40 => ?_)
      · refine lv_iconst (v := 0) hx hb dX4_supply_61 (by decide) ?_
        refine lv_iadd hx hb dX4_supply_62 ?_
        refine lv_istore_n (lv' := [(2, .int (x2 + 0)), (0, .ref (o)), (1, .int (x)), (3, .int (nI k))]) hx hb dX4_supply_63 rfl hl (by decide) rfl (fun ls hl => ?_)
        refine lv_iinc (v := nI (k + 1)) (lv' := [(3, .int (nI (k + 1))), (2, .int (x2 + 0)), (0, .ref (o)), (1, .int (x))]) hx hb dX4_supply_64 hl (k := 3) rfl (nI_c1 _) (by decide) rfl (fun ls hl => ?_)
        refine lv_goto (tgt := 4) hx hb dX4_supply_67 (by decide) ?_
        exact ih (k + 1) (x2 + 0) (by omega) (by omega) (((br_n c_11 (br_p c_22 (br_p c_31 (br_p c_40 rfl)))) : g_X4_supply_4 μ x fu (k + 1) (x2 + 0) = g_X4_supply_4 μ x (fu + 1) k x2).trans hg_4) ls (lv_sub hl [2, 3, 0, 1] rfl)
      refine lv_aload_n hx hb dX4_supply_43 rfl (lv_at hl 0 rfl) ?_
      refine lv_iload_n hx hb dX4_supply_44 rfl (lv_at hl 1 rfl) ?_
      refine lv_aload_n hx hb dX4_supply_45 rfl (lv_at hl 0 rfl) ?_
      refine lv_iload_n hx hb dX4_supply_46 rfl (lv_at hl 2 rfl) ?_
      refine lv_iconst (v := 1) hx hb dX4_supply_47 (by decide) ?_
      refine mo_call (rest := [.int (x), .ref (o), .int (x2)]) hx hb hml hown hts hK hP (c_X4_of l D cI o a μ hh (nI k) k rfl 1 1 rfl (by first | with_reducible assumption | omega)) (kV_X4_of hts ml_X4_34 ⟨(Nat.le_of_ble_eq_true rfl), (Nat.le_of_ble_eq_true rfl)⟩) rfl hl.1 rfl (Nat.le_of_ble_eq_true rfl) dX4_supply_48 (Nat.zero_le _) (Nat.zero_le _) ?_
      refine mo_call (rest := [.int (x2)]) hx hb hml hown hts hK hP (c_X4_isOfUse l D cI o a μ hh x (f_X4_of μ k 1) (by with_reducible assumption)) (kV_X4_isOfUse hts ml_X4_59 ⟨(Nat.le_of_ble_eq_true rfl), (Nat.le_of_ble_eq_true rfl)⟩) rfl hl.1 rfl (Nat.le_of_ble_eq_true rfl) dX4_supply_51 (Nat.zero_le _) (Nat.zero_le _) ?_
      refine lv_if_eq (tgt := 61) hx hb dX4_supply_54 (by decide) (fun c_54 => ?_) (fun c_54 => ?_)
      · refine lv_iconst (v := 0) hx hb dX4_supply_61 (by decide) ?_
        refine lv_iadd hx hb dX4_supply_62 ?_
        refine lv_istore_n (lv' := [(2, .int (x2 + 0)), (0, .ref (o)), (1, .int (x)), (3, .int (nI k))]) hx hb dX4_supply_63 rfl hl (by decide) rfl (fun ls hl => ?_)
        refine lv_iinc (v := nI (k + 1)) (lv' := [(3, .int (nI (k + 1))), (2, .int (x2 + 0)), (0, .ref (o)), (1, .int (x))]) hx hb dX4_supply_64 hl (k := 3) rfl (nI_c1 _) (by decide) rfl (fun ls hl => ?_)
        refine lv_goto (tgt := 4) hx hb dX4_supply_67 (by decide) ?_
        exact ih (k + 1) (x2 + 0) (by omega) (by omega) (((br_n c_11 (br_p c_22 (br_p c_31 (br_n c_40 (br_p c_54 rfl))))) : g_X4_supply_4 μ x fu (k + 1) (x2 + 0) = g_X4_supply_4 μ x (fu + 1) k x2).trans hg_4) ls (lv_sub hl [2, 3, 0, 1] rfl)
      refine lv_iconst (v := 1) hx hb dX4_supply_57 (by decide) ?_
      refine lv_goto (tgt := 62) hx hb dX4_supply_58 (by decide) ?_
      refine lv_iadd hx hb dX4_supply_62 ?_
      refine lv_istore_n (lv' := [(2, .int (x2 + 1)), (0, .ref (o)), (1, .int (x)), (3, .int (nI k))]) hx hb dX4_supply_63 rfl hl (by decide) rfl (fun ls hl => ?_)
      refine lv_iinc (v := nI (k + 1)) (lv' := [(3, .int (nI (k + 1))), (2, .int (x2 + 1)), (0, .ref (o)), (1, .int (x))]) hx hb dX4_supply_64 hl (k := 3) rfl (nI_c1 _) (by decide) rfl (fun ls hl => ?_)
      refine lv_goto (tgt := 4) hx hb dX4_supply_67 (by decide) ?_
      exact ih (k + 1) (x2 + 1) (by omega) (by omega) (((br_n c_11 (br_p c_22 (br_p c_31 (br_n c_40 (br_n c_54 rfl))))) : g_X4_supply_4 μ x fu (k + 1) (x2 + 1) = g_X4_supply_4 μ x (fu + 1) k x2).trans hg_4) ls (lv_sub hl [2, 3, 0, 1] rfl)
  exact L_4 (mN μ + 1) 0 0 (by omega) (by omega) rfl ls (lv_sub hl [2, 3, 0, 1] rfl)
theorem kV_X4_supply {R : Room} {s : State} {args : Array Value} {own : String} {idx : Nat} {c0 : Cond} (hts : ∀ w ∈ c0 :: W0, w.before args s = true) (hl : Cond.methodLink own idx yX4_supply ∈ W0) (hR : rm_X4_supply.frames + 1 ≤ R.frames ∧ 8 + (4 + 11) + rm_X4_supply.locals ≤ R.locals) : CallW R s args own RX4 idx yX4_supply cX4_supply 4 (some .int) (Cond.code yX4_supply cX4_supply 4 (some .int) :: W0) rm_X4_supply 0 0 1 := cwV 1 hts (gdV hl mi_yX4_supply ms_yX4_supply mini_X4 mc_yX4_supply) rfl rfl rfl (by decide +kernel) hR

/-! X4.inState -/
def g_X4_inState_4 (μ : Nat → Nat → Int32) (x : Int32) : Nat → (Nat) → (Int32) → Int32
  | 0, k, x2 => x2
  | fu + 1, k, x2 => (if mN μ ≤ k then x2 else (if (f_X4_is μ k x) = 0 then g_X4_inState_4 μ x fu (k + 1) (x2 + 0) else g_X4_inState_4 μ x fu (k + 1) (x2 + 1)))
def f_X4_inState (μ : Nat → Nat → Int32) (x : Int32) : Int32 := (g_X4_inState_4 μ x (mN μ + 1) 0 0)
abbrev rm_X4_inState : Room := { frames := 2, cells := 0, slots := 0, locals := 44 }
set_option maxRecDepth 100000 in
theorem c_X4_inState (l : Launch) (D : va_G) (cI : ClassId) (o : Nat) (a : Nat → Nat) (μ : Nat → Nat → Int32) (hh : Int64) (x : Int32) (hon : okN μ) :
    Met l yX4_inState (Cond.code yX4_inState cX4_inState 4 (some .int) :: W0) rm_X4_inState (va_Pc [.ref o, .int x] (moP D cI o a μ hh)) (vp_Si (fun r => r = f_X4_inState μ x)) 0 0 (fun _ => False) := by
  refine st_gen (cc := cX4_inState) (maxL := 4) (ret := some .int) (own := RX4) (by decide) rfl (Nat.le_of_ble_eq_true rfl) ?_
  intro p e s m below meth c ls C hPre hl
  obtain ⟨hx, hb, hr, hml, hown, hts, hlk⟩ := C
  obtain ⟨hP, hK⟩ := hPre
  have hl : lv_has ls 4 [(0, .ref (o)), (1, .int (x))] := hl
  have hN6 := hon.2
  refine lv_iconst (v := 0) hx hb dX4_inState_0 (by decide) ?_
  refine lv_istore_n (lv' := [(2, .int (0)), (0, .ref (o)), (1, .int (x))]) hx hb dX4_inState_1 rfl hl (by decide) rfl (fun ls hl => ?_)
  refine lv_iconst (v := 0) hx hb dX4_inState_2 (by decide) ?_
  refine lv_istore_n (lv' := [(3, .int (0)), (2, .int (0)), (0, .ref (o)), (1, .int (x))]) hx hb dX4_inState_3 rfl hl (by decide) rfl (fun ls hl => ?_)
  have K_37 : ∀ ls, lv_has ls 4 [(0, .ref (o)), (1, .int (x)), (2, .int ((g_X4_inState_4 μ x (mN μ + 1) 0 0)))] → W p l e rm_X4_inState s m (([.ref (o), .int (x)] : List Value).toArray) below meth c s.heap [] 0 0 (MQ below (vp_Si (fun r => r = f_X4_inState μ x)) ([.ref (o), .int (x)] : List Value).toArray s 0 0 (fun _ => False)) (F0 m 37 ls []) := by
    intro ls hl
    refine lv_iload_n hx hb dX4_inState_37 rfl (lv_at hl 2 rfl) ?_
    exact fin_i hx hb hr hlk rfl dX4_inState_38
  have L_4 : ∀ (fu : Nat) (k : Nat) (x2 : Int32), mN μ - k < fu → k ≤ mN μ → g_X4_inState_4 μ x fu k x2 = g_X4_inState_4 μ x (mN μ + 1) 0 0 → ∀ ls, lv_has ls 4 [(0, .ref (o)), (1, .int (x)), (3, .int (nI k)), (2, .int (x2))] → W p l e rm_X4_inState s m (([.ref (o), .int (x)] : List Value).toArray) below meth c s.heap [] 0 0 (MQ below (vp_Si (fun r => r = f_X4_inState μ x)) ([.ref (o), .int (x)] : List Value).toArray s 0 0 (fun _ => False)) (F0 m 4 ls []) := by
    intro fu
    induction fu with
    | zero => intro k x2 hm; exact absurd hm (Nat.not_lt_zero _)
    | succ fu ih =>
      intro k x2 hm hkN hg_4 ls hl
      refine lv_iload_n hx hb dX4_inState_4 rfl (lv_at hl 2 rfl) ?_
      refine lv_aload_n hx hb dX4_inState_5 rfl (lv_at hl 0 rfl) ?_
      refine mo_g0 hx hb hts hown hK hP dX4_inState_6 ?_
      refine lv_iconst (v := 1) hx hb dX4_inState_9 (by decide) ?_
      refine mo_r0 hx hb hK hP (1) rfl (by omega) (v := μ 0 1) rfl dX4_inState_10 ?_
      refine lv_icmp_geN (k) (mN μ) hx hb rfl (show okN μ by first | with_reducible assumption | exact okM_1 (by with_reducible assumption)).1 (by omega) (by omega) (tgt := 37) dX4_inState_11 (by decide) (fun c_11 => ?_) (fun c_11 => ?_)
      · have ex : x2 = g_X4_inState_4 μ x (mN μ + 1) 0 0 := ((br_p c_11 rfl) : x2 = g_X4_inState_4 μ x (fu + 1) k x2).trans hg_4
        exact K_37 ls (by rw [← ex]; exact lv_sub hl [0, 1, 3] rfl)
      refine lv_iload_n hx hb dX4_inState_14 rfl (lv_at hl 3 rfl) ?_
      refine lv_aload_n hx hb dX4_inState_15 rfl (lv_at hl 0 rfl) ?_
      refine lv_iload_n hx hb dX4_inState_16 rfl (lv_at hl 2 rfl) ?_
      refine lv_iload_n hx hb dX4_inState_17 rfl (lv_at hl 1 rfl) ?_
      refine mo_call (rest := [.int (x2)]) hx hb hml hown hts hK hP (c_X4_is l D cI o a μ hh (nI k) k rfl x (by first | with_reducible assumption | omega)) (kV_X4_is hts ml_X4_55 ⟨(Nat.le_of_ble_eq_true rfl), (Nat.le_of_ble_eq_true rfl)⟩) rfl hl.1 rfl (Nat.le_of_ble_eq_true rfl) dX4_inState_18 (Nat.zero_le _) (Nat.zero_le _) ?_
      refine lv_if_eq (tgt := 28) hx hb dX4_inState_21 (by decide) (fun c_21 => ?_) (fun c_21 => ?_)
      · refine lv_iconst (v := 0) hx hb dX4_inState_28 (by decide) ?_
        refine lv_iadd hx hb dX4_inState_29 ?_
        refine lv_istore_n (lv' := [(2, .int (x2 + 0)), (0, .ref (o)), (1, .int (x)), (3, .int (nI k))]) hx hb dX4_inState_30 rfl hl (by decide) rfl (fun ls hl => ?_)
        refine lv_iinc (v := nI (k + 1)) (lv' := [(3, .int (nI (k + 1))), (2, .int (x2 + 0)), (0, .ref (o)), (1, .int (x))]) hx hb dX4_inState_31 hl (k := 3) rfl (nI_c1 _) (by decide) rfl (fun ls hl => ?_)
        refine lv_goto (tgt := 4) hx hb dX4_inState_34 (by decide) ?_
        exact ih (k + 1) (x2 + 0) (by omega) (by omega) (((br_n c_11 (br_p c_21 rfl)) : g_X4_inState_4 μ x fu (k + 1) (x2 + 0) = g_X4_inState_4 μ x (fu + 1) k x2).trans hg_4) ls (lv_sub hl [2, 3, 0, 1] rfl)
      refine lv_iconst (v := 1) hx hb dX4_inState_24 (by decide) ?_
      refine lv_goto (tgt := 29) hx hb dX4_inState_25 (by decide) ?_
      refine lv_iadd hx hb dX4_inState_29 ?_
      refine lv_istore_n (lv' := [(2, .int (x2 + 1)), (0, .ref (o)), (1, .int (x)), (3, .int (nI k))]) hx hb dX4_inState_30 rfl hl (by decide) rfl (fun ls hl => ?_)
      refine lv_iinc (v := nI (k + 1)) (lv' := [(3, .int (nI (k + 1))), (2, .int (x2 + 1)), (0, .ref (o)), (1, .int (x))]) hx hb dX4_inState_31 hl (k := 3) rfl (nI_c1 _) (by decide) rfl (fun ls hl => ?_)
      refine lv_goto (tgt := 4) hx hb dX4_inState_34 (by decide) ?_
      exact ih (k + 1) (x2 + 1) (by omega) (by omega) (((br_n c_11 (br_n c_21 rfl)) : g_X4_inState_4 μ x fu (k + 1) (x2 + 1) = g_X4_inState_4 μ x (fu + 1) k x2).trans hg_4) ls (lv_sub hl [2, 3, 0, 1] rfl)
  exact L_4 (mN μ + 1) 0 0 (by omega) (by omega) rfl ls (lv_sub hl [2, 3, 0, 1] rfl)
theorem kV_X4_inState {R : Room} {s : State} {args : Array Value} {own : String} {idx : Nat} {c0 : Cond} (hts : ∀ w ∈ c0 :: W0, w.before args s = true) (hl : Cond.methodLink own idx yX4_inState ∈ W0) (hR : rm_X4_inState.frames + 1 ≤ R.frames ∧ 8 + (4 + 11) + rm_X4_inState.locals ≤ R.locals) : CallW R s args own RX4 idx yX4_inState cX4_inState 4 (some .int) (Cond.code yX4_inState cX4_inState 4 (some .int) :: W0) rm_X4_inState 0 0 1 := cwV 1 hts (gdV hl mi_yX4_inState ms_yX4_inState mini_X4 mc_yX4_inState) rfl rfl rfl (by decide +kernel) hR

/-! X4.ofTitle -/
def g_X4_ofTitle_5 (μ : Nat → Nat → Int32) (x : Int32) (y : Int32) : Nat → (Nat) → (Int32) → Int32
  | 0, k, x3 => x3
  | fu + 1, k, x3 => (if mN μ ≤ k then x3 else (if (f_X4_of μ k 0) = x then (if y = (-1) then g_X4_ofTitle_5 μ x y fu (k + 1) (x3 + 1) else (if (f_X4_is μ k y) = 0 then g_X4_ofTitle_5 μ x y fu (k + 1) (x3 + 0) else g_X4_ofTitle_5 μ x y fu (k + 1) (x3 + 1))) else g_X4_ofTitle_5 μ x y fu (k + 1) (x3 + 0)))
def f_X4_ofTitle (μ : Nat → Nat → Int32) (x : Int32) (y : Int32) : Int32 := (g_X4_ofTitle_5 μ x y (mN μ + 1) 0 0)
abbrev rm_X4_ofTitle : Room := { frames := 2, cells := 0, slots := 0, locals := 44 }
set_option maxRecDepth 100000 in
theorem c_X4_ofTitle (l : Launch) (D : va_G) (cI : ClassId) (o : Nat) (a : Nat → Nat) (μ : Nat → Nat → Int32) (hh : Int64) (x : Int32) (y : Int32) (hon : okN μ) :
    Met l yX4_ofTitle (Cond.code yX4_ofTitle cX4_ofTitle 5 (some .int) :: W0) rm_X4_ofTitle (va_Pc [.ref o, .int x, .int y] (moP D cI o a μ hh)) (vp_Si (fun r => r = f_X4_ofTitle μ x y)) 0 0 (fun _ => False) := by
  refine st_gen (cc := cX4_ofTitle) (maxL := 5) (ret := some .int) (own := RX4) (by decide) rfl (Nat.le_of_ble_eq_true rfl) ?_
  intro p e s m below meth c ls C hPre hl
  obtain ⟨hx, hb, hr, hml, hown, hts, hlk⟩ := C
  obtain ⟨hP, hK⟩ := hPre
  have hl : lv_has ls 5 [(0, .ref (o)), (1, .int (x)), (2, .int (y))] := hl
  have hN6 := hon.2
  refine lv_iconst (v := 0) hx hb dX4_ofTitle_0 (by decide) ?_
  refine lv_istore_n (lv' := [(3, .int (0)), (0, .ref (o)), (1, .int (x)), (2, .int (y))]) hx hb dX4_ofTitle_1 rfl hl (by decide) rfl (fun ls hl => ?_)
  refine lv_iconst (v := 0) hx hb dX4_ofTitle_2 (by decide) ?_
  refine lv_istore (lv' := [(4, .int (0)), (3, .int (0)), (0, .ref (o)), (1, .int (x)), (2, .int (y))]) hx hb dX4_ofTitle_3 hl (by decide) rfl (fun ls hl => ?_)
  have K_56 : ∀ ls, lv_has ls 5 [(0, .ref (o)), (1, .int (x)), (2, .int (y)), (3, .int ((g_X4_ofTitle_5 μ x y (mN μ + 1) 0 0)))] → W p l e rm_X4_ofTitle s m (([.ref (o), .int (x), .int (y)] : List Value).toArray) below meth c s.heap [] 0 0 (MQ below (vp_Si (fun r => r = f_X4_ofTitle μ x y)) ([.ref (o), .int (x), .int (y)] : List Value).toArray s 0 0 (fun _ => False)) (F0 m 56 ls []) := by
    intro ls hl
    refine lv_iload_n hx hb dX4_ofTitle_56 rfl (lv_at hl 3 rfl) ?_
    exact fin_i hx hb hr hlk rfl dX4_ofTitle_57
  have L_5 : ∀ (fu : Nat) (k : Nat) (x3 : Int32), mN μ - k < fu → k ≤ mN μ → g_X4_ofTitle_5 μ x y fu k x3 = g_X4_ofTitle_5 μ x y (mN μ + 1) 0 0 → ∀ ls, lv_has ls 5 [(0, .ref (o)), (1, .int (x)), (2, .int (y)), (4, .int (nI k)), (3, .int (x3))] → W p l e rm_X4_ofTitle s m (([.ref (o), .int (x), .int (y)] : List Value).toArray) below meth c s.heap [] 0 0 (MQ below (vp_Si (fun r => r = f_X4_ofTitle μ x y)) ([.ref (o), .int (x), .int (y)] : List Value).toArray s 0 0 (fun _ => False)) (F0 m 5 ls []) := by
    intro fu
    induction fu with
    | zero => intro k x3 hm; exact absurd hm (Nat.not_lt_zero _)
    | succ fu ih =>
      intro k x3 hm hkN hg_5 ls hl
      refine lv_iload hx hb dX4_ofTitle_5 (lv_at hl 3 rfl) ?_
      refine lv_aload_n hx hb dX4_ofTitle_7 rfl (lv_at hl 0 rfl) ?_
      refine mo_g0 hx hb hts hown hK hP dX4_ofTitle_8 ?_
      refine lv_iconst (v := 1) hx hb dX4_ofTitle_11 (by decide) ?_
      refine mo_r0 hx hb hK hP (1) rfl (by omega) (v := μ 0 1) rfl dX4_ofTitle_12 ?_
      refine lv_icmp_geN (k) (mN μ) hx hb rfl (show okN μ by first | with_reducible assumption | exact okM_1 (by with_reducible assumption)).1 (by omega) (by omega) (tgt := 56) dX4_ofTitle_13 (by decide) (fun c_13 => ?_) (fun c_13 => ?_)
      · have ex : x3 = g_X4_ofTitle_5 μ x y (mN μ + 1) 0 0 := ((br_p c_13 rfl) : x3 = g_X4_ofTitle_5 μ x y (fu + 1) k x3).trans hg_5
        exact K_56 ls (by rw [← ex]; exact lv_sub hl [0, 1, 2, 4] rfl)
      refine lv_iload_n hx hb dX4_ofTitle_16 rfl (lv_at hl 4 rfl) ?_
      refine lv_aload_n hx hb dX4_ofTitle_17 rfl (lv_at hl 0 rfl) ?_
      refine lv_iload hx hb dX4_ofTitle_18 (lv_at hl 3 rfl) ?_
      refine lv_iconst (v := 0) hx hb dX4_ofTitle_20 (by decide) ?_
      refine mo_call (rest := [.int (x3)]) hx hb hml hown hts hK hP (c_X4_of l D cI o a μ hh (nI k) k rfl 0 0 rfl (by first | with_reducible assumption | omega)) (kV_X4_of hts ml_X4_34 ⟨(Nat.le_of_ble_eq_true rfl), (Nat.le_of_ble_eq_true rfl)⟩) rfl hl.1 rfl (Nat.le_of_ble_eq_true rfl) dX4_ofTitle_21 (Nat.zero_le _) (Nat.zero_le _) ?_
      refine lv_iload_n hx hb dX4_ofTitle_24 rfl (lv_at hl 1 rfl) ?_
      refine lv_icmp_ne (tgt := 47) hx hb dX4_ofTitle_25 (by decide) (fun c_25 => ?_) (fun c_25 => ?_)
      · refine lv_iconst (v := 0) hx hb dX4_ofTitle_47 (by decide) ?_
        refine lv_iadd hx hb dX4_ofTitle_48 ?_
        refine lv_istore_n (lv' := [(3, .int (x3 + 0)), (0, .ref (o)), (1, .int (x)), (2, .int (y)), (4, .int (nI k))]) hx hb dX4_ofTitle_49 rfl hl (by decide) rfl (fun ls hl => ?_)
        refine lv_iinc (v := nI (k + 1)) (lv' := [(4, .int (nI (k + 1))), (3, .int (x3 + 0)), (0, .ref (o)), (1, .int (x)), (2, .int (y))]) hx hb dX4_ofTitle_50 hl (k := 4) rfl (nI_c1 _) (by decide) rfl (fun ls hl => ?_)
        refine lv_goto (tgt := 5) hx hb dX4_ofTitle_53 (by decide) ?_
        exact ih (k + 1) (x3 + 0) (by omega) (by omega) (((br_n c_13 (br_n c_25 rfl)) : g_X4_ofTitle_5 μ x y fu (k + 1) (x3 + 0) = g_X4_ofTitle_5 μ x y (fu + 1) k x3).trans hg_5) ls (lv_sub hl [2, 3, 4, 0, 1] rfl)
      refine lv_iload_n hx hb dX4_ofTitle_28 rfl (lv_at hl 2 rfl) ?_
      refine lv_iconst (v := (-1)) hx hb dX4_ofTitle_29 (by decide) ?_
      refine lv_icmp_eq (tgt := 43) hx hb dX4_ofTitle_30 (by decide) (fun c_30 => ?_) (fun c_30 => ?_)
      · refine lv_iconst (v := 1) hx hb dX4_ofTitle_43 (by decide) ?_
        refine lv_goto (tgt := 48) hx hb dX4_ofTitle_44 (by decide) ?_
        refine lv_iadd hx hb dX4_ofTitle_48 ?_
        refine lv_istore_n (lv' := [(3, .int (x3 + 1)), (0, .ref (o)), (1, .int (x)), (2, .int (y)), (4, .int (nI k))]) hx hb dX4_ofTitle_49 rfl hl (by decide) rfl (fun ls hl => ?_)
        refine lv_iinc (v := nI (k + 1)) (lv' := [(4, .int (nI (k + 1))), (3, .int (x3 + 1)), (0, .ref (o)), (1, .int (x)), (2, .int (y))]) hx hb dX4_ofTitle_50 hl (k := 4) rfl (nI_c1 _) (by decide) rfl (fun ls hl => ?_)
        refine lv_goto (tgt := 5) hx hb dX4_ofTitle_53 (by decide) ?_
        exact ih (k + 1) (x3 + 1) (by omega) (by omega) (((br_n c_13 (br_p c_25 (br_p c_30 rfl))) : g_X4_ofTitle_5 μ x y fu (k + 1) (x3 + 1) = g_X4_ofTitle_5 μ x y (fu + 1) k x3).trans hg_5) ls (lv_sub hl [2, 3, 4, 0, 1] rfl)
      refine lv_aload_n hx hb dX4_ofTitle_33 rfl (lv_at hl 0 rfl) ?_
      refine lv_iload hx hb dX4_ofTitle_34 (lv_at hl 3 rfl) ?_
      refine lv_iload_n hx hb dX4_ofTitle_36 rfl (lv_at hl 2 rfl) ?_
      refine mo_call (rest := [.int (x3)]) hx hb hml hown hts hK hP (c_X4_is l D cI o a μ hh (nI k) k rfl y (by first | with_reducible assumption | omega)) (kV_X4_is hts ml_X4_55 ⟨(Nat.le_of_ble_eq_true rfl), (Nat.le_of_ble_eq_true rfl)⟩) rfl hl.1 rfl (Nat.le_of_ble_eq_true rfl) dX4_ofTitle_37 (Nat.zero_le _) (Nat.zero_le _) ?_
      refine lv_if_eq (tgt := 47) hx hb dX4_ofTitle_40 (by decide) (fun c_40 => ?_) (fun c_40 => ?_)
      · refine lv_iconst (v := 0) hx hb dX4_ofTitle_47 (by decide) ?_
        refine lv_iadd hx hb dX4_ofTitle_48 ?_
        refine lv_istore_n (lv' := [(3, .int (x3 + 0)), (0, .ref (o)), (1, .int (x)), (2, .int (y)), (4, .int (nI k))]) hx hb dX4_ofTitle_49 rfl hl (by decide) rfl (fun ls hl => ?_)
        refine lv_iinc (v := nI (k + 1)) (lv' := [(4, .int (nI (k + 1))), (3, .int (x3 + 0)), (0, .ref (o)), (1, .int (x)), (2, .int (y))]) hx hb dX4_ofTitle_50 hl (k := 4) rfl (nI_c1 _) (by decide) rfl (fun ls hl => ?_)
        refine lv_goto (tgt := 5) hx hb dX4_ofTitle_53 (by decide) ?_
        exact ih (k + 1) (x3 + 0) (by omega) (by omega) (((br_n c_13 (br_p c_25 (br_n c_30 (br_p c_40 rfl)))) : g_X4_ofTitle_5 μ x y fu (k + 1) (x3 + 0) = g_X4_ofTitle_5 μ x y (fu + 1) k x3).trans hg_5) ls (lv_sub hl [2, 3, 4, 0, 1] rfl)
      refine lv_iconst (v := 1) hx hb dX4_ofTitle_43 (by decide) ?_
      refine lv_goto (tgt := 48) hx hb dX4_ofTitle_44 (by decide) ?_
      refine lv_iadd hx hb dX4_ofTitle_48 ?_
      refine lv_istore_n (lv' := [(3, .int (x3 + 1)), (0, .ref (o)), (1, .int (x)), (2, .int (y)), (4, .int (nI k))]) hx hb dX4_ofTitle_49 rfl hl (by decide) rfl (fun ls hl => ?_)
      refine lv_iinc (v := nI (k + 1)) (lv' := [(4, .int (nI (k + 1))), (3, .int (x3 + 1)), (0, .ref (o)), (1, .int (x)), (2, .int (y))]) hx hb dX4_ofTitle_50 hl (k := 4) rfl (nI_c1 _) (by decide) rfl (fun ls hl => ?_)
      refine lv_goto (tgt := 5) hx hb dX4_ofTitle_53 (by decide) ?_
      exact ih (k + 1) (x3 + 1) (by omega) (by omega) (((br_n c_13 (br_p c_25 (br_n c_30 (br_n c_40 rfl)))) : g_X4_ofTitle_5 μ x y fu (k + 1) (x3 + 1) = g_X4_ofTitle_5 μ x y (fu + 1) k x3).trans hg_5) ls (lv_sub hl [2, 3, 4, 0, 1] rfl)
  exact L_5 (mN μ + 1) 0 0 (by omega) (by omega) rfl ls (lv_sub hl [2, 3, 4, 0, 1] rfl)
theorem kV_X4_ofTitle {R : Room} {s : State} {args : Array Value} {own : String} {idx : Nat} {c0 : Cond} (hts : ∀ w ∈ c0 :: W0, w.before args s = true) (hl : Cond.methodLink own idx yX4_ofTitle ∈ W0) (hR : rm_X4_ofTitle.frames + 1 ≤ R.frames ∧ 8 + (5 + 11) + rm_X4_ofTitle.locals ≤ R.locals) : CallW R s args own RX4 idx yX4_ofTitle cX4_ofTitle 5 (some .int) (Cond.code yX4_ofTitle cX4_ofTitle 5 (some .int) :: W0) rm_X4_ofTitle 0 0 2 := cwV 2 hts (gdV hl mi_yX4_ofTitle ms_yX4_ofTitle mini_X4 mc_yX4_ofTitle) rfl rfl rfl (by decide +kernel) hR

/-! X4.isCourseLike -/
def f_X4_isCourseLike (x : Int32) (y : Int32) : Int32 := (if (f_X4_in x 1 30) = 0 then 0 else (if (f_X4_in y 0 200) = 0 then 0 else 1))
abbrev rm_X4_isCourseLike : Room := { frames := 1, cells := 0, slots := 0, locals := 22 }
set_option maxRecDepth 100000 in
theorem c_X4_isCourseLike (l : Launch) (x : Int32) (y : Int32) :
    Met l yX4_isCourseLike (Cond.code yX4_isCourseLike cX4_isCourseLike 2 (some .boolean) :: W0) rm_X4_isCourseLike (va_Pc [.int x, .int y] (fun _ => True)) (vp_Si (fun r => r = f_X4_isCourseLike x y)) 0 0 (fun _ => False) := by
  refine st_gen (cc := cX4_isCourseLike) (maxL := 2) (ret := some .boolean) (own := RX4) (by decide) rfl (Nat.le_of_ble_eq_true rfl) ?_
  intro p e s m below meth c ls C hPre hl
  obtain ⟨hx, hb, hr, hml, hown, hts, hlk⟩ := C
  have hl : lv_has ls 2 [(0, .int (x)), (1, .int (y))] := hl
  refine lv_iload_n hx hb dX4_isCourseLike_0 rfl (lv_at hl 0 rfl) ?_
  refine lv_iconst (v := 1) hx hb dX4_isCourseLike_1 (by decide) ?_
  refine lv_bipush (v := 30) hx hb dX4_isCourseLike_2 (by decide) ?_
  refine cl_S (rest := []) hx hb hml hown hts (c_X4_in l x 1 30) (kS_X4_in hts ml_X4_30 ⟨(Nat.le_of_ble_eq_true rfl), (Nat.le_of_ble_eq_true rfl)⟩) rfl hl.1 rfl (Nat.le_of_ble_eq_true rfl) dX4_isCourseLike_4 (Nat.zero_le _) (Nat.zero_le _) ?_
  refine lv_if_eq (tgt := 25) hx hb dX4_isCourseLike_7 (by decide) (fun c_7 => ?_) (fun c_7 => ?_)
  · refine lv_iconst (v := 0) hx hb dX4_isCourseLike_25 (by decide) ?_
    exact fin_z hx hb hr hlk (Or.inl rfl) (br_p c_7 rfl) dX4_isCourseLike_26
  have v_7 := inN 30 c_7 (by decide) rfl (by decide)
  have vb_7 := v_7.1
  refine lv_iload_n hx hb dX4_isCourseLike_10 rfl (lv_at hl 1 rfl) ?_
  refine lv_iconst (v := 0) hx hb dX4_isCourseLike_11 (by decide) ?_
  refine lv_sipush (v := 200) hx hb dX4_isCourseLike_12 (by decide) ?_
  refine cl_S (rest := []) hx hb hml hown hts (c_X4_in l y 0 200) (kS_X4_in hts ml_X4_30 ⟨(Nat.le_of_ble_eq_true rfl), (Nat.le_of_ble_eq_true rfl)⟩) rfl hl.1 rfl (Nat.le_of_ble_eq_true rfl) dX4_isCourseLike_15 (Nat.zero_le _) (Nat.zero_le _) ?_
  refine lv_if_eq (tgt := 25) hx hb dX4_isCourseLike_18 (by decide) (fun c_18 => ?_) (fun c_18 => ?_)
  · refine lv_iconst (v := 0) hx hb dX4_isCourseLike_25 (by decide) ?_
    exact fin_z hx hb hr hlk (Or.inl rfl) (br_n c_7 (br_p c_18 rfl)) dX4_isCourseLike_26
  have v_18 := inN 200 c_18 (by decide) rfl (by decide)
  have vb_18 := v_18.1
  refine lv_iconst (v := 1) hx hb dX4_isCourseLike_21 (by decide) ?_
  refine lv_goto (tgt := 26) hx hb dX4_isCourseLike_22 (by decide) ?_
  exact fin_z hx hb hr hlk (Or.inr rfl) (br_n c_7 (br_n c_18 rfl)) dX4_isCourseLike_26
theorem kS_X4_isCourseLike {R : Room} {s : State} {args : Array Value} {own : String} {idx : Nat} {c0 : Cond} (hts : ∀ w ∈ c0 :: W0, w.before args s = true) (hl : Cond.methodLink own idx yX4_isCourseLike ∈ W0) (hR : rm_X4_isCourseLike.frames + 1 ≤ R.frames ∧ 8 + (2 + 11) + rm_X4_isCourseLike.locals ≤ R.locals) : CallB R s args own idx yX4_isCourseLike cX4_isCourseLike 2 (some .boolean) (Cond.code yX4_isCourseLike cX4_isCourseLike 2 (some .boolean) :: W0) rm_X4_isCourseLike 0 0 2 ∧ (Cond.static yX4_isCourseLike).before args s = true := va_cwS 2 hts (gdS hl mst_yX4_isCourseLike mini_X4 mc_yX4_isCourseLike) rfl rfl rfl (by decide +kernel) hR

theorem z_X4_isCourseLike {x : Int32} {y : Int32} : f_X4_isCourseLike x y = 0 ∨ f_X4_isCourseLike x y = 1 := by
  unfold f_X4_isCourseLike
  (repeat' split) <;> first | exact Or.inl rfl | exact Or.inr rfl | exact z_X4_in

/-! X4.number -/
def f_X4_number (μ : Nat → Nat → Int32) (w : Nat) : Int32 := (if 4 ≤ w then (if 9 ≤ w then (if w = 9 then ((f_X4_inState μ 0) + (f_X4_inState μ 1)) + (f_X4_inState μ 4) else μ 0 ((4 + w) - 10)) else (f_X4_inState μ ((nI w) - 4))) else μ 0 w)
abbrev rm_X4_number : Room := { frames := 3, cells := 0, slots := 0, locals := 67 }
set_option maxRecDepth 100000 in
theorem c_X4_number (l : Launch) (D : va_G) (cI : ClassId) (o : Nat) (a : Nat → Nat) (μ : Nat → Nat → Int32) (hh : Int64) (x : Int32) (w : Nat) (hx : x = nI w) (hok : okM μ) (hw : w ≤ 13) :
    Met l yX4_number (Cond.code yX4_number cX4_number 2 (some .int) :: W0) rm_X4_number (va_Pc [.ref o, .int x] (moP D cI o a μ hh)) (vp_Si (fun r => r = f_X4_number μ w)) 0 0 (fun _ => False) := by
  subst hx
  refine st_gen (cc := cX4_number) (maxL := 2) (ret := some .int) (own := RX4) (by decide) rfl (Nat.le_of_ble_eq_true rfl) ?_
  intro p e s m below meth c ls C hPre hl
  obtain ⟨hx, hb, hr, hml, hown, hts, hlk⟩ := C
  obtain ⟨hP, hK⟩ := hPre
  have hl : lv_has ls 2 [(0, .ref (o)), (1, .int (nI w))] := hl
  obtain ⟨hT6, hC6, hN6, hS5⟩ := okM_b hok
  refine lv_iload_n hx hb dX4_number_0 rfl (lv_at hl 1 rfl) ?_
  refine lv_iconst (v := 4) hx hb dX4_number_1 (by decide) ?_
  refine lv_icmp_geN (w) (4) hx hb rfl rfl (by omega) (by omega) (tgt := 12) dX4_number_2 (by decide) (fun c_2 => ?_) (fun c_2 => ?_)
  · refine lv_iload_n hx hb dX4_number_12 rfl (lv_at hl 1 rfl) ?_
    refine lv_bipush (v := 9) hx hb dX4_number_13 (by decide) ?_
    refine lv_icmp_geN (w) (9) hx hb rfl rfl (by omega) (by omega) (tgt := 28) dX4_number_15 (by decide) (fun c_15 => ?_) (fun c_15 => ?_)
    · refine lv_iload_n hx hb dX4_number_28 rfl (lv_at hl 1 rfl) ?_
      refine lv_bipush (v := 9) hx hb dX4_number_29 (by decide) ?_
      refine lv_icmp_neN (w) (9) hx hb rfl rfl (by omega) (by omega) (tgt := 54) dX4_number_31 (by decide) (fun c_31 => ?_) (fun c_31 => ?_)
      · refine lv_aload_n hx hb dX4_number_54 rfl (lv_at hl 0 rfl) ?_
        refine mo_g0 hx hb hts hown hK hP dX4_number_55 ?_
        refine lv_iconst (v := 4) hx hb dX4_number_58 (by decide) ?_
        refine lv_iload_n hx hb dX4_number_59 rfl (lv_at hl 1 rfl) ?_
        refine lv_iaddN (x := 4) (y := w) hx hb rfl rfl dX4_number_60 ?_
        refine lv_bipush (v := 10) hx hb dX4_number_61 (by decide) ?_
        refine lv_isubN (x := (4 + w)) (y := 10) hx hb rfl rfl (by omega) dX4_number_63 ?_
        refine mo_r0 hx hb hK hP (((4 + w) - 10)) rfl (by omega) (v := μ 0 ((4 + w) - 10)) rfl dX4_number_64 ?_
        exact fin_i hx hb hr hlk (br_p c_2 (br_p c_15 (br_n c_31 rfl))) dX4_number_65
      refine lv_aload_n hx hb dX4_number_34 rfl (lv_at hl 0 rfl) ?_
      refine lv_iconst (v := 0) hx hb dX4_number_35 (by decide) ?_
      refine mo_call (rest := []) hx hb hml hown hts hK hP (c_X4_inState l D cI o a μ hh 0 (by first | with_reducible assumption | exact okM_1 (by with_reducible assumption))) (kV_X4_inState hts ml_X4_75 ⟨(Nat.le_of_ble_eq_true rfl), (Nat.le_of_ble_eq_true rfl)⟩) rfl hl.1 rfl (Nat.le_of_ble_eq_true rfl) dX4_number_36 (Nat.zero_le _) (Nat.zero_le _) ?_
      refine lv_aload_n hx hb dX4_number_39 rfl (lv_at hl 0 rfl) ?_
      refine lv_iconst (v := 1) hx hb dX4_number_40 (by decide) ?_
      refine mo_call (rest := [.int ((f_X4_inState μ 0))]) hx hb hml hown hts hK hP (c_X4_inState l D cI o a μ hh 1 (by first | with_reducible assumption | exact okM_1 (by with_reducible assumption))) (kV_X4_inState hts ml_X4_75 ⟨(Nat.le_of_ble_eq_true rfl), (Nat.le_of_ble_eq_true rfl)⟩) rfl hl.1 rfl (Nat.le_of_ble_eq_true rfl) dX4_number_41 (Nat.zero_le _) (Nat.zero_le _) ?_
      refine lv_iadd hx hb dX4_number_44 ?_
      refine lv_aload_n hx hb dX4_number_45 rfl (lv_at hl 0 rfl) ?_
      refine lv_iconst (v := 4) hx hb dX4_number_46 (by decide) ?_
      refine mo_call (rest := [.int ((f_X4_inState μ 0) + (f_X4_inState μ 1))]) hx hb hml hown hts hK hP (c_X4_inState l D cI o a μ hh 4 (by first | with_reducible assumption | exact okM_1 (by with_reducible assumption))) (kV_X4_inState hts ml_X4_75 ⟨(Nat.le_of_ble_eq_true rfl), (Nat.le_of_ble_eq_true rfl)⟩) rfl hl.1 rfl (Nat.le_of_ble_eq_true rfl) dX4_number_47 (Nat.zero_le _) (Nat.zero_le _) ?_
      refine lv_iadd hx hb dX4_number_50 ?_
      refine lv_goto (tgt := 65) hx hb dX4_number_51 (by decide) ?_
      exact fin_i hx hb hr hlk (br_p c_2 (br_p c_15 (br_p c_31 rfl))) dX4_number_65
    refine lv_aload_n hx hb dX4_number_18 rfl (lv_at hl 0 rfl) ?_
    refine lv_iload_n hx hb dX4_number_19 rfl (lv_at hl 1 rfl) ?_
    refine lv_iconst (v := 4) hx hb dX4_number_20 (by decide) ?_
    refine lv_isub hx hb dX4_number_21 ?_
    refine mo_call (rest := []) hx hb hml hown hts hK hP (c_X4_inState l D cI o a μ hh ((nI w) - 4) (by first | with_reducible assumption | exact okM_1 (by with_reducible assumption))) (kV_X4_inState hts ml_X4_75 ⟨(Nat.le_of_ble_eq_true rfl), (Nat.le_of_ble_eq_true rfl)⟩) rfl hl.1 rfl (Nat.le_of_ble_eq_true rfl) dX4_number_22 (Nat.zero_le _) (Nat.zero_le _) ?_
    refine lv_goto (tgt := 65) hx hb dX4_number_25 (by decide) ?_
    exact fin_i hx hb hr hlk (br_p c_2 (br_n c_15 rfl)) dX4_number_65
  refine lv_aload_n hx hb dX4_number_5 rfl (lv_at hl 0 rfl) ?_
  refine mo_g0 hx hb hts hown hK hP dX4_number_6 ?_
  refine lv_iload_n hx hb dX4_number_9 rfl (lv_at hl 1 rfl) ?_
  refine mo_r0 hx hb hK hP (w) rfl (by omega) (v := μ 0 w) rfl dX4_number_10 ?_
  exact fin_i hx hb hr hlk (br_n c_2 rfl) dX4_number_11
theorem kV_X4_number {R : Room} {s : State} {args : Array Value} {own : String} {idx : Nat} {c0 : Cond} (hts : ∀ w ∈ c0 :: W0, w.before args s = true) (hl : Cond.methodLink own idx yX4_number ∈ W0) (hR : rm_X4_number.frames + 1 ≤ R.frames ∧ 8 + (2 + 11) + rm_X4_number.locals ≤ R.locals) : CallW R s args own RX4 idx yX4_number cX4_number 2 (some .int) (Cond.code yX4_number cX4_number 2 (some .int) :: W0) rm_X4_number 0 0 1 := cwV 1 hts (gdV hl mi_yX4_number ms_yX4_number mini_X4 mc_yX4_number) rfl rfl rfl (by decide +kernel) hR

/-! X4.count -/
def f_X4_count (μ : Nat → Nat → Int32) (x : Int32) : Int32 := (if (f_X4_in x 0 13) = 0 then (-3) else (f_X4_number μ (tn x)))
abbrev rm_X4_count : Room := { frames := 4, cells := 0, slots := 0, locals := 88 }
set_option maxRecDepth 100000 in
theorem c_X4_count (l : Launch) (D : va_G) (cI : ClassId) (o : Nat) (a : Nat → Nat) (μ : Nat → Nat → Int32) (hh : Int64) (x : Int32) (hok : okM μ) :
    Met l yX4_count (Cond.code yX4_count cX4_count 2 (some .int) :: W0) rm_X4_count (va_Pc [.ref o, .int x] (moP D cI o a μ hh)) (vp_Si (fun r => r = f_X4_count μ x)) 0 0 (fun _ => False) := by
  refine st_gen (cc := cX4_count) (maxL := 2) (ret := some .int) (own := RX4) (by decide) rfl (Nat.le_of_ble_eq_true rfl) ?_
  intro p e s m below meth c ls C hPre hl
  obtain ⟨hx, hb, hr, hml, hown, hts, hlk⟩ := C
  obtain ⟨hP, hK⟩ := hPre
  have hl : lv_has ls 2 [(0, .ref (o)), (1, .int (x))] := hl
  obtain ⟨hT6, hC6, hN6, hS5⟩ := okM_b hok
  refine lv_iload_n hx hb dX4_count_0 rfl (lv_at hl 1 rfl) ?_
  refine lv_iconst (v := 0) hx hb dX4_count_1 (by decide) ?_
  refine lv_bipush (v := 13) hx hb dX4_count_2 (by decide) ?_
  refine cl_S (rest := []) hx hb hml hown hts (c_X4_in l x 0 13) (kS_X4_in hts ml_X4_30 ⟨(Nat.le_of_ble_eq_true rfl), (Nat.le_of_ble_eq_true rfl)⟩) rfl hl.1 rfl (Nat.le_of_ble_eq_true rfl) dX4_count_4 (Nat.zero_le _) (Nat.zero_le _) ?_
  refine lv_if_eq (tgt := 18) hx hb dX4_count_7 (by decide) (fun c_7 => ?_) (fun c_7 => ?_)
  · refine lv_bipush (v := (-3)) hx hb dX4_count_18 (by decide) ?_
    exact fin_i hx hb hr hlk (br_p c_7 rfl) dX4_count_20
  have v_7 := inN 13 c_7 (by decide) rfl (by decide)
  have vb_7 := v_7.1
  refine lv_aload_n hx hb dX4_count_10 rfl (lv_at hl 0 rfl) ?_
  refine lv_iload_n hx hb dX4_count_11 rfl (lv_at hl 1 rfl) ?_
  refine mo_call (rest := []) hx hb hml hown hts hK hP (c_X4_number l D cI o a μ hh x (tn x) v_7.2 (by with_reducible assumption) (by first | with_reducible assumption | omega)) (kV_X4_number hts ml_X4_78 ⟨(Nat.le_of_ble_eq_true rfl), (Nat.le_of_ble_eq_true rfl)⟩) rfl hl.1 rfl (Nat.le_of_ble_eq_true rfl) dX4_count_12 (Nat.zero_le _) (Nat.zero_le _) ?_
  refine lv_goto (tgt := 20) hx hb dX4_count_15 (by decide) ?_
  exact fin_i hx hb hr hlk (br_n c_7 rfl) dX4_count_20
theorem kV_X4_count {R : Room} {s : State} {args : Array Value} {own : String} {idx : Nat} {c0 : Cond} (hts : ∀ w ∈ c0 :: W0, w.before args s = true) (hl : Cond.methodLink own idx yX4_count ∈ W0) (hR : rm_X4_count.frames + 1 ≤ R.frames ∧ 8 + (2 + 11) + rm_X4_count.locals ≤ R.locals) : CallW R s args own RX4 idx yX4_count cX4_count 2 (some .int) (Cond.code yX4_count cX4_count 2 (some .int) :: W0) rm_X4_count 0 0 1 := cwV 1 hts (gdV hl mi_yX4_count ms_yX4_count mini_X4 mc_yX4_count) rfl rfl rfl (by decide +kernel) hR

/-! X4.titleNow -/
def f_X4_titleNow (μ : Nat → Nat → Int32) (t : Nat) (w : Nat) : Int32 := (if w = 0 then (f_X4_price μ t) else (if w = 1 then (f_X4_current μ t) else (if w = 2 then (f_X4_demand μ (nI t)) else (if w = 3 then (f_X4_supply μ (nI t)) else (if w = 4 then (if (f_X4_demand μ (nI t)) ≤ (f_X4_supply μ (nI t)) then 0 else (f_X4_demand μ (nI t)) - (f_X4_supply μ (nI t))) else (if w = 5 then (f_X4_ofTitle μ (nI t) (-1)) else (f_X4_ofTitle μ (nI t) 0)))))))
abbrev rm_X4_titleNow : Room := { frames := 3, cells := 0, slots := 0, locals := 69 }
set_option maxRecDepth 100000 in
theorem c_X4_titleNow (l : Launch) (D : va_G) (cI : ClassId) (o : Nat) (a : Nat → Nat) (μ : Nat → Nat → Int32) (hh : Int64) (x : Int32) (t : Nat) (hx : x = nI t) (y : Int32) (w : Nat) (hy : y = nI w) (hok : okM μ) (ht : t < 6) (hw : w ≤ 6) :
    Met l yX4_titleNow (Cond.code yX4_titleNow cX4_titleNow 3 (some .int) :: W0) rm_X4_titleNow (va_Pc [.ref o, .int x, .int y] (moP D cI o a μ hh)) (vp_Si (fun r => r = f_X4_titleNow μ t w)) 0 0 (fun _ => False) := by
  subst hx
  subst hy
  refine st_gen (cc := cX4_titleNow) (maxL := 3) (ret := some .int) (own := RX4) (by decide) rfl (Nat.le_of_ble_eq_true rfl) ?_
  intro p e s m below meth c ls C hPre hl
  obtain ⟨hx, hb, hr, hml, hown, hts, hlk⟩ := C
  obtain ⟨hP, hK⟩ := hPre
  have hl : lv_has ls 3 [(0, .ref (o)), (1, .int (nI t)), (2, .int (nI w))] := hl
  obtain ⟨hT6, hC6, hN6, hS5⟩ := okM_b hok
  refine lv_iload_n hx hb dX4_titleNow_0 rfl (lv_at hl 2 rfl) ?_
  by_cases c_1_0 : w = 0
  · refine lv_sw_in (k := 0) (tgt := 40) hx hb dX4_titleNow_1 (congrArg nI c_1_0) (by decide) (by decide) rfl (by decide) ?_
    refine lv_aload_n hx hb dX4_titleNow_40 rfl (lv_at hl 0 rfl) ?_
    refine lv_iload_n hx hb dX4_titleNow_41 rfl (lv_at hl 1 rfl) ?_
    refine mo_call (rest := []) hx hb hml hown hts hK hP (c_X4_price l D cI o a μ hh (nI t) t rfl (by first | with_reducible assumption | omega)) (kV_X4_price hts ml_X4_38 ⟨(Nat.le_of_ble_eq_true rfl), (Nat.le_of_ble_eq_true rfl)⟩) rfl hl.1 rfl (Nat.le_of_ble_eq_true rfl) dX4_titleNow_42 (Nat.zero_le _) (Nat.zero_le _) ?_
    exact fin_i hx hb hr hlk (br_p c_1_0 rfl) dX4_titleNow_45
  by_cases c_1_1 : w = 1
  · refine lv_sw_in (k := 1) (tgt := 46) hx hb dX4_titleNow_1 (congrArg nI c_1_1) (by decide) (by decide) rfl (by decide) ?_
    refine lv_aload_n hx hb dX4_titleNow_46 rfl (lv_at hl 0 rfl) ?_
    refine lv_iload_n hx hb dX4_titleNow_47 rfl (lv_at hl 1 rfl) ?_
    refine mo_call (rest := []) hx hb hml hown hts hK hP (c_X4_current l D cI o a μ hh (nI t) t rfl (by first | with_reducible assumption | omega)) (kV_X4_current hts ml_X4_42 ⟨(Nat.le_of_ble_eq_true rfl), (Nat.le_of_ble_eq_true rfl)⟩) rfl hl.1 rfl (Nat.le_of_ble_eq_true rfl) dX4_titleNow_48 (Nat.zero_le _) (Nat.zero_le _) ?_
    exact fin_i hx hb hr hlk (br_n c_1_0 (br_p c_1_1 rfl)) dX4_titleNow_51
  by_cases c_1_2 : w = 2
  · refine lv_sw_in (k := 2) (tgt := 52) hx hb dX4_titleNow_1 (congrArg nI c_1_2) (by decide) (by decide) rfl (by decide) ?_
    refine lv_aload_n hx hb dX4_titleNow_52 rfl (lv_at hl 0 rfl) ?_
    refine lv_iload_n hx hb dX4_titleNow_53 rfl (lv_at hl 1 rfl) ?_
    refine mo_call (rest := []) hx hb hml hown hts hK hP (c_X4_demand l D cI o a μ hh (nI t) (by with_reducible assumption)) (kV_X4_demand hts ml_X4_81 ⟨(Nat.le_of_ble_eq_true rfl), (Nat.le_of_ble_eq_true rfl)⟩) rfl hl.1 rfl (Nat.le_of_ble_eq_true rfl) dX4_titleNow_54 (Nat.zero_le _) (Nat.zero_le _) ?_
    exact fin_i hx hb hr hlk (br_n c_1_0 (br_n c_1_1 (br_p c_1_2 rfl))) dX4_titleNow_57
  by_cases c_1_3 : w = 3
  · refine lv_sw_in (k := 3) (tgt := 58) hx hb dX4_titleNow_1 (congrArg nI c_1_3) (by decide) (by decide) rfl (by decide) ?_
    refine lv_aload_n hx hb dX4_titleNow_58 rfl (lv_at hl 0 rfl) ?_
    refine lv_iload_n hx hb dX4_titleNow_59 rfl (lv_at hl 1 rfl) ?_
    refine mo_call (rest := []) hx hb hml hown hts hK hP (c_X4_supply l D cI o a μ hh (nI t) (by with_reducible assumption)) (kV_X4_supply hts ml_X4_84 ⟨(Nat.le_of_ble_eq_true rfl), (Nat.le_of_ble_eq_true rfl)⟩) rfl hl.1 rfl (Nat.le_of_ble_eq_true rfl) dX4_titleNow_60 (Nat.zero_le _) (Nat.zero_le _) ?_
    exact fin_i hx hb hr hlk (br_n c_1_0 (br_n c_1_1 (br_n c_1_2 (br_p c_1_3 rfl)))) dX4_titleNow_63
  by_cases c_1_4 : w = 4
  · refine lv_sw_in (k := 4) (tgt := 64) hx hb dX4_titleNow_1 (congrArg nI c_1_4) (by decide) (by decide) rfl (by decide) ?_
    refine lv_aload_n hx hb dX4_titleNow_64 rfl (lv_at hl 0 rfl) ?_
    refine lv_iload_n hx hb dX4_titleNow_65 rfl (lv_at hl 1 rfl) ?_
    refine mo_call (rest := []) hx hb hml hown hts hK hP (c_X4_demand l D cI o a μ hh (nI t) (by with_reducible assumption)) (kV_X4_demand hts ml_X4_81 ⟨(Nat.le_of_ble_eq_true rfl), (Nat.le_of_ble_eq_true rfl)⟩) rfl hl.1 rfl (Nat.le_of_ble_eq_true rfl) dX4_titleNow_66 (Nat.zero_le _) (Nat.zero_le _) ?_
    refine lv_aload_n hx hb dX4_titleNow_69 rfl (lv_at hl 0 rfl) ?_
    refine lv_iload_n hx hb dX4_titleNow_70 rfl (lv_at hl 1 rfl) ?_
    refine mo_call (rest := [.int ((f_X4_demand μ (nI t)))]) hx hb hml hown hts hK hP (c_X4_supply l D cI o a μ hh (nI t) (by with_reducible assumption)) (kV_X4_supply hts ml_X4_84 ⟨(Nat.le_of_ble_eq_true rfl), (Nat.le_of_ble_eq_true rfl)⟩) rfl hl.1 rfl (Nat.le_of_ble_eq_true rfl) dX4_titleNow_71 (Nat.zero_le _) (Nat.zero_le _) ?_
    refine lv_icmp_le (tgt := 91) hx hb dX4_titleNow_74 (by decide) (fun c_74 => ?_) (fun c_74 => ?_)
    · refine lv_iconst (v := 0) hx hb dX4_titleNow_91 (by decide) ?_
      exact fin_i hx hb hr hlk (br_n c_1_0 (br_n c_1_1 (br_n c_1_2 (br_n c_1_3 (br_p c_1_4 (br_p c_74 rfl)))))) dX4_titleNow_92
    refine lv_aload_n hx hb dX4_titleNow_77 rfl (lv_at hl 0 rfl) ?_
    refine lv_iload_n hx hb dX4_titleNow_78 rfl (lv_at hl 1 rfl) ?_
    refine mo_call (rest := []) hx hb hml hown hts hK hP (c_X4_demand l D cI o a μ hh (nI t) (by with_reducible assumption)) (kV_X4_demand hts ml_X4_81 ⟨(Nat.le_of_ble_eq_true rfl), (Nat.le_of_ble_eq_true rfl)⟩) rfl hl.1 rfl (Nat.le_of_ble_eq_true rfl) dX4_titleNow_79 (Nat.zero_le _) (Nat.zero_le _) ?_
    refine lv_aload_n hx hb dX4_titleNow_82 rfl (lv_at hl 0 rfl) ?_
    refine lv_iload_n hx hb dX4_titleNow_83 rfl (lv_at hl 1 rfl) ?_
    refine mo_call (rest := [.int ((f_X4_demand μ (nI t)))]) hx hb hml hown hts hK hP (c_X4_supply l D cI o a μ hh (nI t) (by with_reducible assumption)) (kV_X4_supply hts ml_X4_84 ⟨(Nat.le_of_ble_eq_true rfl), (Nat.le_of_ble_eq_true rfl)⟩) rfl hl.1 rfl (Nat.le_of_ble_eq_true rfl) dX4_titleNow_84 (Nat.zero_le _) (Nat.zero_le _) ?_
    refine lv_isub hx hb dX4_titleNow_87 ?_
    refine lv_goto (tgt := 92) hx hb dX4_titleNow_88 (by decide) ?_
    exact fin_i hx hb hr hlk (br_n c_1_0 (br_n c_1_1 (br_n c_1_2 (br_n c_1_3 (br_p c_1_4 (br_n c_74 rfl)))))) dX4_titleNow_92
  by_cases c_1_5 : w = 5
  · refine lv_sw_in (k := 5) (tgt := 93) hx hb dX4_titleNow_1 (congrArg nI c_1_5) (by decide) (by decide) rfl (by decide) ?_
    refine lv_aload_n hx hb dX4_titleNow_93 rfl (lv_at hl 0 rfl) ?_
    refine lv_iload_n hx hb dX4_titleNow_94 rfl (lv_at hl 1 rfl) ?_
    refine lv_iconst (v := (-1)) hx hb dX4_titleNow_95 (by decide) ?_
    refine mo_call (rest := []) hx hb hml hown hts hK hP (c_X4_ofTitle l D cI o a μ hh (nI t) (-1) (by first | with_reducible assumption | exact okM_1 (by with_reducible assumption))) (kV_X4_ofTitle hts ml_X4_87 ⟨(Nat.le_of_ble_eq_true rfl), (Nat.le_of_ble_eq_true rfl)⟩) rfl hl.1 rfl (Nat.le_of_ble_eq_true rfl) dX4_titleNow_96 (Nat.zero_le _) (Nat.zero_le _) ?_
    exact fin_i hx hb hr hlk (br_n c_1_0 (br_n c_1_1 (br_n c_1_2 (br_n c_1_3 (br_n c_1_4 (br_p c_1_5 rfl)))))) dX4_titleNow_99
  refine lv_tableOut (tgt := 100) hx hb dX4_titleNow_1 (by first | (rw [nI_toInt (by omega)]; rw [nI_toInt (by omega)]; omega) | (rw [nI_toInt (by omega)]; omega)) (by decide) ?_
  refine lv_aload_n hx hb dX4_titleNow_100 rfl (lv_at hl 0 rfl) ?_
  refine lv_iload_n hx hb dX4_titleNow_101 rfl (lv_at hl 1 rfl) ?_
  refine lv_iconst (v := 0) hx hb dX4_titleNow_102 (by decide) ?_
  refine mo_call (rest := []) hx hb hml hown hts hK hP (c_X4_ofTitle l D cI o a μ hh (nI t) 0 (by first | with_reducible assumption | exact okM_1 (by with_reducible assumption))) (kV_X4_ofTitle hts ml_X4_87 ⟨(Nat.le_of_ble_eq_true rfl), (Nat.le_of_ble_eq_true rfl)⟩) rfl hl.1 rfl (Nat.le_of_ble_eq_true rfl) dX4_titleNow_103 (Nat.zero_le _) (Nat.zero_le _) ?_
  exact fin_i hx hb hr hlk (br_n c_1_0 (br_n c_1_1 (br_n c_1_2 (br_n c_1_3 (br_n c_1_4 (br_n c_1_5 rfl)))))) dX4_titleNow_106
theorem kV_X4_titleNow {R : Room} {s : State} {args : Array Value} {own : String} {idx : Nat} {c0 : Cond} (hts : ∀ w ∈ c0 :: W0, w.before args s = true) (hl : Cond.methodLink own idx yX4_titleNow ∈ W0) (hR : rm_X4_titleNow.frames + 1 ≤ R.frames ∧ 8 + (3 + 11) + rm_X4_titleNow.locals ≤ R.locals) : CallW R s args own RX4 idx yX4_titleNow cX4_titleNow 3 (some .int) (Cond.code yX4_titleNow cX4_titleNow 3 (some .int) :: W0) rm_X4_titleNow 0 0 2 := cwV 2 hts (gdV hl mi_yX4_titleNow ms_yX4_titleNow mini_X4 mc_yX4_titleNow) rfl rfl rfl (by decide +kernel) hR

/-! X4.title -/
def f_X4_title (μ : Nat → Nat → Int32) (x : Int32) (y : Int32) : Int32 := (if (f_X4_isTitle μ x) = 0 then (-2) else (if (f_X4_in y 0 6) = 0 then (-3) else (f_X4_titleNow μ (tn x) (tn y))))
abbrev rm_X4_title : Room := { frames := 4, cells := 0, slots := 0, locals := 91 }
set_option maxRecDepth 100000 in
theorem c_X4_title (l : Launch) (D : va_G) (cI : ClassId) (o : Nat) (a : Nat → Nat) (μ : Nat → Nat → Int32) (hh : Int64) (x : Int32) (y : Int32) (hok : okM μ) :
    Met l yX4_title (Cond.code yX4_title cX4_title 3 (some .int) :: W0) rm_X4_title (va_Pc [.ref o, .int x, .int y] (moP D cI o a μ hh)) (vp_Si (fun r => r = f_X4_title μ x y)) 0 0 (fun _ => False) := by
  refine st_gen (cc := cX4_title) (maxL := 3) (ret := some .int) (own := RX4) (by decide) rfl (Nat.le_of_ble_eq_true rfl) ?_
  intro p e s m below meth c ls C hPre hl
  obtain ⟨hx, hb, hr, hml, hown, hts, hlk⟩ := C
  obtain ⟨hP, hK⟩ := hPre
  have hl : lv_has ls 3 [(0, .ref (o)), (1, .int (x)), (2, .int (y))] := hl
  obtain ⟨hT6, hC6, hN6, hS5⟩ := okM_b hok
  refine lv_aload_n hx hb dX4_title_0 rfl (lv_at hl 0 rfl) ?_
  refine lv_iload_n hx hb dX4_title_1 rfl (lv_at hl 1 rfl) ?_
  refine mo_call (rest := []) hx hb hml hown hts hK hP (c_X4_isTitle l D cI o a μ hh x) (kV_X4_isTitle hts ml_X4_65 ⟨(Nat.le_of_ble_eq_true rfl), (Nat.le_of_ble_eq_true rfl)⟩) rfl hl.1 rfl (Nat.le_of_ble_eq_true rfl) dX4_title_2 (Nat.zero_le _) (Nat.zero_le _) ?_
  refine lv_if_ne (tgt := 11) hx hb dX4_title_5 (by decide) (fun c_5 => ?_) (fun c_5 => ?_)
  · have v_5 := isTitle_okm (μ := μ) (by with_reducible assumption) c_5
    have vb_5 := v_5.1
    refine lv_iload_n hx hb dX4_title_11 rfl (lv_at hl 2 rfl) ?_
    refine lv_iconst (v := 0) hx hb dX4_title_12 (by decide) ?_
    refine lv_bipush (v := 6) hx hb dX4_title_13 (by decide) ?_
    refine cl_S (rest := []) hx hb hml hown hts (c_X4_in l y 0 6) (kS_X4_in hts ml_X4_30 ⟨(Nat.le_of_ble_eq_true rfl), (Nat.le_of_ble_eq_true rfl)⟩) rfl hl.1 rfl (Nat.le_of_ble_eq_true rfl) dX4_title_15 (Nat.zero_le _) (Nat.zero_le _) ?_
    refine lv_if_eq (tgt := 30) hx hb dX4_title_18 (by decide) (fun c_18 => ?_) (fun c_18 => ?_)
    · refine lv_bipush (v := (-3)) hx hb dX4_title_30 (by decide) ?_
      exact fin_i hx hb hr hlk (br_n c_5 (br_p c_18 rfl)) dX4_title_32
    have v_18 := inN 6 c_18 (by decide) rfl (by decide)
    have vb_18 := v_18.1
    refine lv_aload_n hx hb dX4_title_21 rfl (lv_at hl 0 rfl) ?_
    refine lv_iload_n hx hb dX4_title_22 rfl (lv_at hl 1 rfl) ?_
    refine lv_iload_n hx hb dX4_title_23 rfl (lv_at hl 2 rfl) ?_
    refine mo_call (rest := []) hx hb hml hown hts hK hP (c_X4_titleNow l D cI o a μ hh x (tn x) v_5.2 y (tn y) v_18.2 (by with_reducible assumption) (by first | with_reducible assumption | omega) (by first | with_reducible assumption | omega)) (kV_X4_titleNow hts ml_X4_90 ⟨(Nat.le_of_ble_eq_true rfl), (Nat.le_of_ble_eq_true rfl)⟩) rfl hl.1 rfl (Nat.le_of_ble_eq_true rfl) dX4_title_24 (Nat.zero_le _) (Nat.zero_le _) ?_
    refine lv_goto (tgt := 32) hx hb dX4_title_27 (by decide) ?_
    exact fin_i hx hb hr hlk (br_n c_5 (br_n c_18 rfl)) dX4_title_32
  refine lv_bipush (v := (-2)) hx hb dX4_title_8 (by decide) ?_
  exact fin_i hx hb hr hlk (br_p c_5 rfl) dX4_title_10
theorem kV_X4_title {R : Room} {s : State} {args : Array Value} {own : String} {idx : Nat} {c0 : Cond} (hts : ∀ w ∈ c0 :: W0, w.before args s = true) (hl : Cond.methodLink own idx yX4_title ∈ W0) (hR : rm_X4_title.frames + 1 ≤ R.frames ∧ 8 + (3 + 11) + rm_X4_title.locals ≤ R.locals) : CallW R s args own RX4 idx yX4_title cX4_title 3 (some .int) (Cond.code yX4_title cX4_title 3 (some .int) :: W0) rm_X4_title 0 0 2 := cwV 2 hts (gdV hl mi_yX4_title ms_yX4_title mini_X4 mc_yX4_title) rfl rfl rfl (by decide +kernel) hR

/-! X4.takes -/
def f_X4_takes (μ : Nat → Nat → Int32) (jc : Nat) (k : Nat) : Int32 := (if (f_X4_is μ k 0) = 0 then 0 else (if (f_X4_of μ k 0) = (f_X4_ofCourse μ jc 0) then (if (f_X4_of μ k 1) < (f_X4_ofCourse μ jc 1) then 0 else 1) else 0))
abbrev rm_X4_takes : Room := { frames := 2, cells := 0, slots := 0, locals := 44 }
set_option maxRecDepth 100000 in
theorem c_X4_takes (l : Launch) (D : va_G) (cI : ClassId) (o : Nat) (a : Nat → Nat) (μ : Nat → Nat → Int32) (hh : Int64) (x : Int32) (jc : Nat) (hx : x = nI jc) (y : Int32) (k : Nat) (hy : y = nI k) (hjc6 : jc < 100) (hk6 : k < 100) :
    Met l yX4_takes (Cond.code yX4_takes cX4_takes 3 (some .boolean) :: W0) rm_X4_takes (va_Pc [.ref o, .int x, .int y] (moP D cI o a μ hh)) (vp_Si (fun r => r = f_X4_takes μ jc k)) 0 0 (fun _ => False) := by
  subst hx
  subst hy
  refine st_gen (cc := cX4_takes) (maxL := 3) (ret := some .boolean) (own := RX4) (by decide) rfl (Nat.le_of_ble_eq_true rfl) ?_
  intro p e s m below meth c ls C hPre hl
  obtain ⟨hx, hb, hr, hml, hown, hts, hlk⟩ := C
  obtain ⟨hP, hK⟩ := hPre
  have hl : lv_has ls 3 [(0, .ref (o)), (1, .int (nI jc)), (2, .int (nI k))] := hl
  refine lv_aload_n hx hb dX4_takes_0 rfl (lv_at hl 0 rfl) ?_
  refine lv_iload_n hx hb dX4_takes_1 rfl (lv_at hl 2 rfl) ?_
  refine lv_iconst (v := 0) hx hb dX4_takes_2 (by decide) ?_
  refine mo_call (rest := []) hx hb hml hown hts hK hP (c_X4_is l D cI o a μ hh (nI k) k rfl 0 (by first | with_reducible assumption | omega)) (kV_X4_is hts ml_X4_55 ⟨(Nat.le_of_ble_eq_true rfl), (Nat.le_of_ble_eq_true rfl)⟩) rfl hl.1 rfl (Nat.le_of_ble_eq_true rfl) dX4_takes_3 (Nat.zero_le _) (Nat.zero_le _) ?_
  refine lv_if_eq (tgt := 43) hx hb dX4_takes_6 (by decide) (fun c_6 => ?_) (fun c_6 => ?_)
  · refine lv_iconst (v := 0) hx hb dX4_takes_43 (by decide) ?_
    exact fin_z hx hb hr hlk (Or.inl rfl) (br_p c_6 rfl) dX4_takes_44
  refine lv_aload_n hx hb dX4_takes_9 rfl (lv_at hl 0 rfl) ?_
  refine lv_iload_n hx hb dX4_takes_10 rfl (lv_at hl 2 rfl) ?_
  refine lv_iconst (v := 0) hx hb dX4_takes_11 (by decide) ?_
  refine mo_call (rest := []) hx hb hml hown hts hK hP (c_X4_of l D cI o a μ hh (nI k) k rfl 0 0 rfl (by first | with_reducible assumption | omega)) (kV_X4_of hts ml_X4_34 ⟨(Nat.le_of_ble_eq_true rfl), (Nat.le_of_ble_eq_true rfl)⟩) rfl hl.1 rfl (Nat.le_of_ble_eq_true rfl) dX4_takes_12 (Nat.zero_le _) (Nat.zero_le _) ?_
  refine lv_aload_n hx hb dX4_takes_15 rfl (lv_at hl 0 rfl) ?_
  refine lv_iload_n hx hb dX4_takes_16 rfl (lv_at hl 1 rfl) ?_
  refine lv_iconst (v := 0) hx hb dX4_takes_17 (by decide) ?_
  refine mo_call (rest := [.int ((f_X4_of μ k 0))]) hx hb hml hown hts hK hP (c_X4_ofCourse l D cI o a μ hh (nI jc) jc rfl 0 0 rfl (by first | with_reducible assumption | omega)) (kV_X4_ofCourse hts ml_X4_52 ⟨(Nat.le_of_ble_eq_true rfl), (Nat.le_of_ble_eq_true rfl)⟩) rfl hl.1 rfl (Nat.le_of_ble_eq_true rfl) dX4_takes_18 (Nat.zero_le _) (Nat.zero_le _) ?_
  refine lv_icmp_ne (tgt := 43) hx hb dX4_takes_21 (by decide) (fun c_21 => ?_) (fun c_21 => ?_)
  · refine lv_iconst (v := 0) hx hb dX4_takes_43 (by decide) ?_
    exact fin_z hx hb hr hlk (Or.inl rfl) (br_n c_6 (br_n c_21 rfl)) dX4_takes_44
  refine lv_aload_n hx hb dX4_takes_24 rfl (lv_at hl 0 rfl) ?_
  refine lv_iload_n hx hb dX4_takes_25 rfl (lv_at hl 2 rfl) ?_
  refine lv_iconst (v := 1) hx hb dX4_takes_26 (by decide) ?_
  refine mo_call (rest := []) hx hb hml hown hts hK hP (c_X4_of l D cI o a μ hh (nI k) k rfl 1 1 rfl (by first | with_reducible assumption | omega)) (kV_X4_of hts ml_X4_34 ⟨(Nat.le_of_ble_eq_true rfl), (Nat.le_of_ble_eq_true rfl)⟩) rfl hl.1 rfl (Nat.le_of_ble_eq_true rfl) dX4_takes_27 (Nat.zero_le _) (Nat.zero_le _) ?_
  refine lv_aload_n hx hb dX4_takes_30 rfl (lv_at hl 0 rfl) ?_
  refine lv_iload_n hx hb dX4_takes_31 rfl (lv_at hl 1 rfl) ?_
  refine lv_iconst (v := 1) hx hb dX4_takes_32 (by decide) ?_
  refine mo_call (rest := [.int ((f_X4_of μ k 1))]) hx hb hml hown hts hK hP (c_X4_ofCourse l D cI o a μ hh (nI jc) jc rfl 1 1 rfl (by first | with_reducible assumption | omega)) (kV_X4_ofCourse hts ml_X4_52 ⟨(Nat.le_of_ble_eq_true rfl), (Nat.le_of_ble_eq_true rfl)⟩) rfl hl.1 rfl (Nat.le_of_ble_eq_true rfl) dX4_takes_33 (Nat.zero_le _) (Nat.zero_le _) ?_
  refine lv_icmp_lt (tgt := 43) hx hb dX4_takes_36 (by decide) (fun c_36 => ?_) (fun c_36 => ?_)
  · refine lv_iconst (v := 0) hx hb dX4_takes_43 (by decide) ?_
    exact fin_z hx hb hr hlk (Or.inl rfl) (br_n c_6 (br_p c_21 (br_p c_36 rfl))) dX4_takes_44
  refine lv_iconst (v := 1) hx hb dX4_takes_39 (by decide) ?_
  refine lv_goto (tgt := 44) hx hb dX4_takes_40 (by decide) ?_
  exact fin_z hx hb hr hlk (Or.inr rfl) (br_n c_6 (br_p c_21 (br_n c_36 rfl))) dX4_takes_44
theorem kV_X4_takes {R : Room} {s : State} {args : Array Value} {own : String} {idx : Nat} {c0 : Cond} (hts : ∀ w ∈ c0 :: W0, w.before args s = true) (hl : Cond.methodLink own idx yX4_takes ∈ W0) (hR : rm_X4_takes.frames + 1 ≤ R.frames ∧ 8 + (3 + 11) + rm_X4_takes.locals ≤ R.locals) : CallW R s args own RX4 idx yX4_takes cX4_takes 3 (some .boolean) (Cond.code yX4_takes cX4_takes 3 (some .boolean) :: W0) rm_X4_takes 0 0 2 := cwV 2 hts (gdV hl mi_yX4_takes ms_yX4_takes mini_X4 mc_yX4_takes) rfl rfl rfl (by decide +kernel) hR

theorem z_X4_takes {μ : Nat → Nat → Int32} {jc : Nat} {k : Nat} : f_X4_takes μ jc k = 0 ∨ f_X4_takes μ jc k = 1 := by
  unfold f_X4_takes
  (repeat' split) <;> first | exact Or.inl rfl | exact Or.inr rfl | exact z_X4_is

/-! X4.courseNow -/
def g_X4_courseNow_17 (μ : Nat → Nat → Int32) (jc : Nat) (w : Nat) : Nat → (Nat) → (Int32) → Int32
  | 0, k, x3 => x3
  | fu + 1, k, x3 => (if mN μ ≤ k then x3 else (if (f_X4_takes μ jc k) = 0 then g_X4_courseNow_17 μ jc w fu (k + 1) (x3 + 0) else g_X4_courseNow_17 μ jc w fu (k + 1) (x3 + 1)))
def f_X4_courseNow (μ : Nat → Nat → Int32) (jc : Nat) (w : Nat) : Int32 := (if 3 ≤ w then (g_X4_courseNow_17 μ jc w (mN μ + 1) 0 0) else (f_X4_ofCourse μ jc w))
abbrev rm_X4_courseNow : Room := { frames := 3, cells := 0, slots := 0, locals := 66 }
set_option maxRecDepth 100000 in
theorem c_X4_courseNow (l : Launch) (D : va_G) (cI : ClassId) (o : Nat) (a : Nat → Nat) (μ : Nat → Nat → Int32) (hh : Int64) (x : Int32) (jc : Nat) (hx : x = nI jc) (y : Int32) (w : Nat) (hy : y = nI w) (hok : okM μ) (hjc : jc < mC μ) (hw : w ≤ 3) :
    Met l yX4_courseNow (Cond.code yX4_courseNow cX4_courseNow 5 (some .int) :: W0) rm_X4_courseNow (va_Pc [.ref o, .int x, .int y] (moP D cI o a μ hh)) (vp_Si (fun r => r = f_X4_courseNow μ jc w)) 0 0 (fun _ => False) := by
  subst hx
  subst hy
  refine st_gen (cc := cX4_courseNow) (maxL := 5) (ret := some .int) (own := RX4) (by decide) rfl (Nat.le_of_ble_eq_true rfl) ?_
  intro p e s m below meth c ls C hPre hl
  obtain ⟨hx, hb, hr, hml, hown, hts, hlk⟩ := C
  obtain ⟨hP, hK⟩ := hPre
  have hl : lv_has ls 5 [(0, .ref (o)), (1, .int (nI jc)), (2, .int (nI w))] := hl
  obtain ⟨hT6, hC6, hN6, hS5⟩ := okM_b hok
  refine lv_iload_n hx hb dX4_courseNow_0 rfl (lv_at hl 2 rfl) ?_
  refine lv_iconst (v := 3) hx hb dX4_courseNow_1 (by decide) ?_
  refine lv_icmp_geN (w) (3) hx hb rfl rfl (by omega) (by omega) (tgt := 12) dX4_courseNow_2 (by decide) (fun c_2 => ?_) (fun c_2 => ?_)
  · refine lv_iconst (v := 0) hx hb dX4_courseNow_12 (by decide) ?_
    refine lv_istore_n (lv' := [(3, .int (0)), (0, .ref (o)), (1, .int (nI jc)), (2, .int (nI w))]) hx hb dX4_courseNow_13 rfl hl (by decide) rfl (fun ls hl => ?_)
    refine lv_iconst (v := 0) hx hb dX4_courseNow_14 (by decide) ?_
    refine lv_istore (lv' := [(4, .int (0)), (3, .int (0)), (0, .ref (o)), (1, .int (nI jc)), (2, .int (nI w))]) hx hb dX4_courseNow_15 hl (by decide) rfl (fun ls hl => ?_)
    have K_52 : ∀ ls, lv_has ls 5 [(0, .ref (o)), (1, .int (nI jc)), (2, .int (nI w)), (3, .int ((g_X4_courseNow_17 μ jc w (mN μ + 1) 0 0)))] → W p l e rm_X4_courseNow s m (([.ref (o), .int (nI jc), .int (nI w)] : List Value).toArray) below meth c s.heap [] 0 0 (MQ below (vp_Si (fun r => r = f_X4_courseNow μ jc w)) ([.ref (o), .int (nI jc), .int (nI w)] : List Value).toArray s 0 0 (fun _ => False)) (F0 m 52 ls []) := by
      intro ls hl
      refine lv_iload_n hx hb dX4_courseNow_52 rfl (lv_at hl 3 rfl) ?_
      exact fin_i hx hb hr hlk (br_p c_2 rfl) dX4_courseNow_53
    have L_17 : ∀ (fu : Nat) (k : Nat) (x3 : Int32), mN μ - k < fu → k ≤ mN μ → g_X4_courseNow_17 μ jc w fu k x3 = g_X4_courseNow_17 μ jc w (mN μ + 1) 0 0 → ∀ ls, lv_has ls 5 [(0, .ref (o)), (1, .int (nI jc)), (2, .int (nI w)), (4, .int (nI k)), (3, .int (x3))] → W p l e rm_X4_courseNow s m (([.ref (o), .int (nI jc), .int (nI w)] : List Value).toArray) below meth c s.heap [] 0 0 (MQ below (vp_Si (fun r => r = f_X4_courseNow μ jc w)) ([.ref (o), .int (nI jc), .int (nI w)] : List Value).toArray s 0 0 (fun _ => False)) (F0 m 17 ls []) := by
      intro fu
      induction fu with
      | zero => intro k x3 hm; exact absurd hm (Nat.not_lt_zero _)
      | succ fu ih =>
        intro k x3 hm hkN hg_17 ls hl
        refine lv_iload hx hb dX4_courseNow_17 (lv_at hl 3 rfl) ?_
        refine lv_aload_n hx hb dX4_courseNow_19 rfl (lv_at hl 0 rfl) ?_
        refine mo_g0 hx hb hts hown hK hP dX4_courseNow_20 ?_
        refine lv_iconst (v := 1) hx hb dX4_courseNow_23 (by decide) ?_
        refine mo_r0 hx hb hK hP (1) rfl (by omega) (v := μ 0 1) rfl dX4_courseNow_24 ?_
        refine lv_icmp_geN (k) (mN μ) hx hb rfl (show okN μ by first | with_reducible assumption | exact okM_1 (by with_reducible assumption)).1 (by omega) (by omega) (tgt := 52) dX4_courseNow_25 (by decide) (fun c_25 => ?_) (fun c_25 => ?_)
        · have ex : x3 = g_X4_courseNow_17 μ jc w (mN μ + 1) 0 0 := ((br_p c_25 rfl) : x3 = g_X4_courseNow_17 μ jc w (fu + 1) k x3).trans hg_17
          exact K_52 ls (by rw [← ex]; exact lv_sub hl [0, 1, 2, 4] rfl)
        refine lv_iload_n hx hb dX4_courseNow_28 rfl (lv_at hl 4 rfl) ?_
        refine lv_aload_n hx hb dX4_courseNow_29 rfl (lv_at hl 0 rfl) ?_
        refine lv_iload_n hx hb dX4_courseNow_30 rfl (lv_at hl 1 rfl) ?_
        refine lv_iload hx hb dX4_courseNow_31 (lv_at hl 3 rfl) ?_
        refine mo_call (rest := [.int (x3)]) hx hb hml hown hts hK hP (c_X4_takes l D cI o a μ hh (nI jc) jc rfl (nI k) k rfl (by first | with_reducible assumption | omega) (by first | with_reducible assumption | omega)) (kV_X4_takes hts ml_X4_93 ⟨(Nat.le_of_ble_eq_true rfl), (Nat.le_of_ble_eq_true rfl)⟩) rfl hl.1 rfl (Nat.le_of_ble_eq_true rfl) dX4_courseNow_33 (Nat.zero_le _) (Nat.zero_le _) ?_
        refine lv_if_eq (tgt := 43) hx hb dX4_courseNow_36 (by decide) (fun c_36 => ?_) (fun c_36 => ?_)
        · refine lv_iconst (v := 0) hx hb dX4_courseNow_43 (by decide) ?_
          refine lv_iadd hx hb dX4_courseNow_44 ?_
          refine lv_istore_n (lv' := [(3, .int (x3 + 0)), (0, .ref (o)), (1, .int (nI jc)), (2, .int (nI w)), (4, .int (nI k))]) hx hb dX4_courseNow_45 rfl hl (by decide) rfl (fun ls hl => ?_)
          refine lv_iinc (v := nI (k + 1)) (lv' := [(4, .int (nI (k + 1))), (3, .int (x3 + 0)), (0, .ref (o)), (1, .int (nI jc)), (2, .int (nI w))]) hx hb dX4_courseNow_46 hl (k := 4) rfl (nI_c1 _) (by decide) rfl (fun ls hl => ?_)
          refine lv_goto (tgt := 17) hx hb dX4_courseNow_49 (by decide) ?_
          exact ih (k + 1) (x3 + 0) (by omega) (by omega) (((br_n c_25 (br_p c_36 rfl)) : g_X4_courseNow_17 μ jc w fu (k + 1) (x3 + 0) = g_X4_courseNow_17 μ jc w (fu + 1) k x3).trans hg_17) ls (lv_sub hl [2, 3, 4, 0, 1] rfl)
        refine lv_iconst (v := 1) hx hb dX4_courseNow_39 (by decide) ?_
        refine lv_goto (tgt := 44) hx hb dX4_courseNow_40 (by decide) ?_
        refine lv_iadd hx hb dX4_courseNow_44 ?_
        refine lv_istore_n (lv' := [(3, .int (x3 + 1)), (0, .ref (o)), (1, .int (nI jc)), (2, .int (nI w)), (4, .int (nI k))]) hx hb dX4_courseNow_45 rfl hl (by decide) rfl (fun ls hl => ?_)
        refine lv_iinc (v := nI (k + 1)) (lv' := [(4, .int (nI (k + 1))), (3, .int (x3 + 1)), (0, .ref (o)), (1, .int (nI jc)), (2, .int (nI w))]) hx hb dX4_courseNow_46 hl (k := 4) rfl (nI_c1 _) (by decide) rfl (fun ls hl => ?_)
        refine lv_goto (tgt := 17) hx hb dX4_courseNow_49 (by decide) ?_
        exact ih (k + 1) (x3 + 1) (by omega) (by omega) (((br_n c_25 (br_n c_36 rfl)) : g_X4_courseNow_17 μ jc w fu (k + 1) (x3 + 1) = g_X4_courseNow_17 μ jc w (fu + 1) k x3).trans hg_17) ls (lv_sub hl [2, 3, 4, 0, 1] rfl)
    exact L_17 (mN μ + 1) 0 0 (by omega) (by omega) rfl ls (lv_sub hl [2, 3, 4, 0, 1] rfl)
  refine lv_aload_n hx hb dX4_courseNow_5 rfl (lv_at hl 0 rfl) ?_
  refine lv_iload_n hx hb dX4_courseNow_6 rfl (lv_at hl 1 rfl) ?_
  refine lv_iload_n hx hb dX4_courseNow_7 rfl (lv_at hl 2 rfl) ?_
  refine mo_call (rest := []) hx hb hml hown hts hK hP (c_X4_ofCourse l D cI o a μ hh (nI jc) jc rfl (nI w) w rfl (by first | with_reducible assumption | omega)) (kV_X4_ofCourse hts ml_X4_52 ⟨(Nat.le_of_ble_eq_true rfl), (Nat.le_of_ble_eq_true rfl)⟩) rfl hl.1 rfl (Nat.le_of_ble_eq_true rfl) dX4_courseNow_8 (Nat.zero_le _) (Nat.zero_le _) ?_
  exact fin_i hx hb hr hlk (br_n c_2 rfl) dX4_courseNow_11
theorem kV_X4_courseNow {R : Room} {s : State} {args : Array Value} {own : String} {idx : Nat} {c0 : Cond} (hts : ∀ w ∈ c0 :: W0, w.before args s = true) (hl : Cond.methodLink own idx yX4_courseNow ∈ W0) (hR : rm_X4_courseNow.frames + 1 ≤ R.frames ∧ 8 + (5 + 11) + rm_X4_courseNow.locals ≤ R.locals) : CallW R s args own RX4 idx yX4_courseNow cX4_courseNow 5 (some .int) (Cond.code yX4_courseNow cX4_courseNow 5 (some .int) :: W0) rm_X4_courseNow 0 0 2 := cwV 2 hts (gdV hl mi_yX4_courseNow ms_yX4_courseNow mini_X4 mc_yX4_courseNow) rfl rfl rfl (by decide +kernel) hR

/-! X4.course -/
def f_X4_course (μ : Nat → Nat → Int32) (x : Int32) (y : Int32) : Int32 := (if (f_X4_isCourse μ x) = 0 then (-2) else (if (f_X4_in y 0 3) = 0 then (-3) else (f_X4_courseNow μ (tn x) (tn y))))
abbrev rm_X4_course : Room := { frames := 4, cells := 0, slots := 0, locals := 90 }
set_option maxRecDepth 100000 in
theorem c_X4_course (l : Launch) (D : va_G) (cI : ClassId) (o : Nat) (a : Nat → Nat) (μ : Nat → Nat → Int32) (hh : Int64) (x : Int32) (y : Int32) (hok : okM μ) :
    Met l yX4_course (Cond.code yX4_course cX4_course 3 (some .int) :: W0) rm_X4_course (va_Pc [.ref o, .int x, .int y] (moP D cI o a μ hh)) (vp_Si (fun r => r = f_X4_course μ x y)) 0 0 (fun _ => False) := by
  refine st_gen (cc := cX4_course) (maxL := 3) (ret := some .int) (own := RX4) (by decide) rfl (Nat.le_of_ble_eq_true rfl) ?_
  intro p e s m below meth c ls C hPre hl
  obtain ⟨hx, hb, hr, hml, hown, hts, hlk⟩ := C
  obtain ⟨hP, hK⟩ := hPre
  have hl : lv_has ls 3 [(0, .ref (o)), (1, .int (x)), (2, .int (y))] := hl
  obtain ⟨hT6, hC6, hN6, hS5⟩ := okM_b hok
  refine lv_aload_n hx hb dX4_course_0 rfl (lv_at hl 0 rfl) ?_
  refine lv_iload_n hx hb dX4_course_1 rfl (lv_at hl 1 rfl) ?_
  refine mo_call (rest := []) hx hb hml hown hts hK hP (c_X4_isCourse l D cI o a μ hh x) (kV_X4_isCourse hts ml_X4_72 ⟨(Nat.le_of_ble_eq_true rfl), (Nat.le_of_ble_eq_true rfl)⟩) rfl hl.1 rfl (Nat.le_of_ble_eq_true rfl) dX4_course_2 (Nat.zero_le _) (Nat.zero_le _) ?_
  refine lv_if_ne (tgt := 11) hx hb dX4_course_5 (by decide) (fun c_5 => ?_) (fun c_5 => ?_)
  · have v_5 := isCourse_okm (μ := μ) (by with_reducible assumption) c_5
    have vb_5 := v_5.1
    refine lv_iload_n hx hb dX4_course_11 rfl (lv_at hl 2 rfl) ?_
    refine lv_iconst (v := 0) hx hb dX4_course_12 (by decide) ?_
    refine lv_iconst (v := 3) hx hb dX4_course_13 (by decide) ?_
    refine cl_S (rest := []) hx hb hml hown hts (c_X4_in l y 0 3) (kS_X4_in hts ml_X4_30 ⟨(Nat.le_of_ble_eq_true rfl), (Nat.le_of_ble_eq_true rfl)⟩) rfl hl.1 rfl (Nat.le_of_ble_eq_true rfl) dX4_course_14 (Nat.zero_le _) (Nat.zero_le _) ?_
    refine lv_if_eq (tgt := 29) hx hb dX4_course_17 (by decide) (fun c_17 => ?_) (fun c_17 => ?_)
    · refine lv_bipush (v := (-3)) hx hb dX4_course_29 (by decide) ?_
      exact fin_i hx hb hr hlk (br_n c_5 (br_p c_17 rfl)) dX4_course_31
    have v_17 := inN 3 c_17 (by decide) rfl (by decide)
    have vb_17 := v_17.1
    refine lv_aload_n hx hb dX4_course_20 rfl (lv_at hl 0 rfl) ?_
    refine lv_iload_n hx hb dX4_course_21 rfl (lv_at hl 1 rfl) ?_
    refine lv_iload_n hx hb dX4_course_22 rfl (lv_at hl 2 rfl) ?_
    refine mo_call (rest := []) hx hb hml hown hts hK hP (c_X4_courseNow l D cI o a μ hh x (tn x) v_5.2 y (tn y) v_17.2 (by with_reducible assumption) (by first | with_reducible assumption | omega) (by first | with_reducible assumption | omega)) (kV_X4_courseNow hts ml_X4_96 ⟨(Nat.le_of_ble_eq_true rfl), (Nat.le_of_ble_eq_true rfl)⟩) rfl hl.1 rfl (Nat.le_of_ble_eq_true rfl) dX4_course_23 (Nat.zero_le _) (Nat.zero_le _) ?_
    refine lv_goto (tgt := 31) hx hb dX4_course_26 (by decide) ?_
    exact fin_i hx hb hr hlk (br_n c_5 (br_n c_17 rfl)) dX4_course_31
  refine lv_bipush (v := (-2)) hx hb dX4_course_8 (by decide) ?_
  exact fin_i hx hb hr hlk (br_p c_5 rfl) dX4_course_10
theorem kV_X4_course {R : Room} {s : State} {args : Array Value} {own : String} {idx : Nat} {c0 : Cond} (hts : ∀ w ∈ c0 :: W0, w.before args s = true) (hl : Cond.methodLink own idx yX4_course ∈ W0) (hR : rm_X4_course.frames + 1 ≤ R.frames ∧ 8 + (3 + 11) + rm_X4_course.locals ≤ R.locals) : CallW R s args own RX4 idx yX4_course cX4_course 3 (some .int) (Cond.code yX4_course cX4_course 3 (some .int) :: W0) rm_X4_course 0 0 2 := cwV 2 hts (gdV hl mi_yX4_course ms_yX4_course mini_X4 mc_yX4_course) rfl rfl rfl (by decide +kernel) hR

/-! X4.late -/
def f_X4_late (μ : Nat → Nat → Int32) (k : Nat) : Int32 := (if (f_X4_is μ k 1) = 0 then 0 else (if (μ 0 3) ≤ (f_X4_of μ k 5) then 0 else (μ 0 3) - (f_X4_of μ k 5)))
abbrev rm_X4_late : Room := { frames := 2, cells := 0, slots := 0, locals := 44 }
set_option maxRecDepth 100000 in
theorem c_X4_late (l : Launch) (D : va_G) (cI : ClassId) (o : Nat) (a : Nat → Nat) (μ : Nat → Nat → Int32) (hh : Int64) (x : Int32) (k : Nat) (hx : x = nI k) (hkw : k < 400) :
    Met l yX4_late (Cond.code yX4_late cX4_late 2 (some .int) :: W0) rm_X4_late (va_Pc [.ref o, .int x] (moP D cI o a μ hh)) (vp_Si (fun r => r = f_X4_late μ k)) 0 0 (fun _ => False) := by
  subst hx
  refine st_gen (cc := cX4_late) (maxL := 2) (ret := some .int) (own := RX4) (by decide) rfl (Nat.le_of_ble_eq_true rfl) ?_
  intro p e s m below meth c ls C hPre hl
  obtain ⟨hx, hb, hr, hml, hown, hts, hlk⟩ := C
  obtain ⟨hP, hK⟩ := hPre
  have hl : lv_has ls 2 [(0, .ref (o)), (1, .int (nI k))] := hl
  refine lv_aload_n hx hb dX4_late_0 rfl (lv_at hl 0 rfl) ?_
  refine lv_iload_n hx hb dX4_late_1 rfl (lv_at hl 1 rfl) ?_
  refine lv_iconst (v := 1) hx hb dX4_late_2 (by decide) ?_
  refine mo_call (rest := []) hx hb hml hown hts hK hP (c_X4_is l D cI o a μ hh (nI k) k rfl 1 (by first | with_reducible assumption | omega)) (kV_X4_is hts ml_X4_55 ⟨(Nat.le_of_ble_eq_true rfl), (Nat.le_of_ble_eq_true rfl)⟩) rfl hl.1 rfl (Nat.le_of_ble_eq_true rfl) dX4_late_3 (Nat.zero_le _) (Nat.zero_le _) ?_
  refine lv_if_eq (tgt := 40) hx hb dX4_late_6 (by decide) (fun c_6 => ?_) (fun c_6 => ?_)
  · refine lv_iconst (v := 0) hx hb dX4_late_40 (by decide) ?_
    exact fin_i hx hb hr hlk (br_p c_6 rfl) dX4_late_41
  refine lv_aload_n hx hb dX4_late_9 rfl (lv_at hl 0 rfl) ?_
  refine mo_g0 hx hb hts hown hK hP dX4_late_10 ?_
  refine lv_iconst (v := 3) hx hb dX4_late_13 (by decide) ?_
  refine mo_r0 hx hb hK hP (3) rfl (by omega) (v := μ 0 3) rfl dX4_late_14 ?_
  refine lv_aload_n hx hb dX4_late_15 rfl (lv_at hl 0 rfl) ?_
  refine lv_iload_n hx hb dX4_late_16 rfl (lv_at hl 1 rfl) ?_
  refine lv_iconst (v := 5) hx hb dX4_late_17 (by decide) ?_
  refine mo_call (rest := [.int (μ 0 3)]) hx hb hml hown hts hK hP (c_X4_of l D cI o a μ hh (nI k) k rfl 5 5 rfl (by first | with_reducible assumption | omega)) (kV_X4_of hts ml_X4_34 ⟨(Nat.le_of_ble_eq_true rfl), (Nat.le_of_ble_eq_true rfl)⟩) rfl hl.1 rfl (Nat.le_of_ble_eq_true rfl) dX4_late_18 (Nat.zero_le _) (Nat.zero_le _) ?_
  refine lv_icmp_le (tgt := 40) hx hb dX4_late_21 (by decide) (fun c_21 => ?_) (fun c_21 => ?_)
  · refine lv_iconst (v := 0) hx hb dX4_late_40 (by decide) ?_
    exact fin_i hx hb hr hlk (br_n c_6 (br_p c_21 rfl)) dX4_late_41
  refine lv_aload_n hx hb dX4_late_24 rfl (lv_at hl 0 rfl) ?_
  refine mo_g0 hx hb hts hown hK hP dX4_late_25 ?_
  refine lv_iconst (v := 3) hx hb dX4_late_28 (by decide) ?_
  refine mo_r0 hx hb hK hP (3) rfl (by omega) (v := μ 0 3) rfl dX4_late_29 ?_
  refine lv_aload_n hx hb dX4_late_30 rfl (lv_at hl 0 rfl) ?_
  refine lv_iload_n hx hb dX4_late_31 rfl (lv_at hl 1 rfl) ?_
  refine lv_iconst (v := 5) hx hb dX4_late_32 (by decide) ?_
  refine mo_call (rest := [.int (μ 0 3)]) hx hb hml hown hts hK hP (c_X4_of l D cI o a μ hh (nI k) k rfl 5 5 rfl (by first | with_reducible assumption | omega)) (kV_X4_of hts ml_X4_34 ⟨(Nat.le_of_ble_eq_true rfl), (Nat.le_of_ble_eq_true rfl)⟩) rfl hl.1 rfl (Nat.le_of_ble_eq_true rfl) dX4_late_33 (Nat.zero_le _) (Nat.zero_le _) ?_
  refine lv_isub hx hb dX4_late_36 ?_
  refine lv_goto (tgt := 41) hx hb dX4_late_37 (by decide) ?_
  exact fin_i hx hb hr hlk (br_n c_6 (br_n c_21 rfl)) dX4_late_41
theorem kV_X4_late {R : Room} {s : State} {args : Array Value} {own : String} {idx : Nat} {c0 : Cond} (hts : ∀ w ∈ c0 :: W0, w.before args s = true) (hl : Cond.methodLink own idx yX4_late ∈ W0) (hR : rm_X4_late.frames + 1 ≤ R.frames ∧ 8 + (2 + 11) + rm_X4_late.locals ≤ R.locals) : CallW R s args own RX4 idx yX4_late cX4_late 2 (some .int) (Cond.code yX4_late cX4_late 2 (some .int) :: W0) rm_X4_late 0 0 1 := cwV 1 hts (gdV hl mi_yX4_late ms_yX4_late mini_X4 mc_yX4_late) rfl rfl rfl (by decide +kernel) hR

theorem late_1 {μ : Nat → Nat → Int32} {k : Nat} {y : Int32} (hy : 0 ≤ y) (h : ¬ f_X4_late μ k ≤ y) : μ 0 (53 + 6 * k + 3) = 1 := by
  unfold f_X4_late at h
  split at h
  · exact absurd hy h
  · rename_i q; exact is_1 q

/-! X4.copyNow -/
def f_X4_copyNow (μ : Nat → Nat → Int32) (k : Nat) (w : Nat) : Int32 := (if w = 6 then (f_X4_worthOf μ k) else (if w = 7 then ((f_X4_worthOf μ k) * 30) / 100 else (if w = 8 then ((f_X4_worthOf μ k) * 75) / 100 else (if w = 9 then (if (f_X4_isOfUse μ (f_X4_of μ k 0) (f_X4_of μ k 1)) = 0 then 0 else 1) else (if w = 10 then (f_X4_late μ k) else (f_X4_of μ k w))))))
abbrev rm_X4_copyNow : Room := { frames := 3, cells := 0, slots := 0, locals := 67 }
set_option maxRecDepth 100000 in
theorem c_X4_copyNow (l : Launch) (D : va_G) (cI : ClassId) (o : Nat) (a : Nat → Nat) (μ : Nat → Nat → Int32) (hh : Int64) (x : Int32) (k : Nat) (hx : x = nI k) (y : Int32) (w : Nat) (hy : y = nI w) (hok : okM μ) (hk : k < mN μ) (hw : w ≤ 10) :
    Met l yX4_copyNow (Cond.code yX4_copyNow cX4_copyNow 3 (some .int) :: W0) rm_X4_copyNow (va_Pc [.ref o, .int x, .int y] (moP D cI o a μ hh)) (vp_Si (fun r => r = f_X4_copyNow μ k w)) 0 0 (fun _ => False) := by
  subst hx
  subst hy
  refine st_gen (cc := cX4_copyNow) (maxL := 3) (ret := some .int) (own := RX4) (by decide) rfl (Nat.le_of_ble_eq_true rfl) ?_
  intro p e s m below meth c ls C hPre hl
  obtain ⟨hx, hb, hr, hml, hown, hts, hlk⟩ := C
  obtain ⟨hP, hK⟩ := hPre
  have hl : lv_has ls 3 [(0, .ref (o)), (1, .int (nI k)), (2, .int (nI w))] := hl
  obtain ⟨hT6, hC6, hN6, hS5⟩ := okM_b hok
  refine lv_iload_n hx hb dX4_copyNow_0 rfl (lv_at hl 2 rfl) ?_
  by_cases c_1_6 : w = 6
  · refine lv_sw_in (k := 6) (tgt := 36) hx hb dX4_copyNow_1 (congrArg nI c_1_6) (by decide) (by decide) rfl (by decide) ?_
    refine lv_aload_n hx hb dX4_copyNow_36 rfl (lv_at hl 0 rfl) ?_
    refine lv_iload_n hx hb dX4_copyNow_37 rfl (lv_at hl 1 rfl) ?_
    refine mo_call (rest := []) hx hb hml hown hts hK hP (c_X4_worthOf l D cI o a μ hh (nI k) k rfl (by with_reducible assumption) (by first | with_reducible assumption | omega)) (kV_X4_worthOf hts ml_X4_99 ⟨(Nat.le_of_ble_eq_true rfl), (Nat.le_of_ble_eq_true rfl)⟩) rfl hl.1 rfl (Nat.le_of_ble_eq_true rfl) dX4_copyNow_38 (Nat.zero_le _) (Nat.zero_le _) ?_
    exact fin_i hx hb hr hlk (br_p c_1_6 rfl) dX4_copyNow_41
  by_cases c_1_7 : w = 7
  · refine lv_sw_in (k := 7) (tgt := 42) hx hb dX4_copyNow_1 (congrArg nI c_1_7) (by decide) (by decide) rfl (by decide) ?_
    refine lv_aload_n hx hb dX4_copyNow_42 rfl (lv_at hl 0 rfl) ?_
    refine lv_iload_n hx hb dX4_copyNow_43 rfl (lv_at hl 1 rfl) ?_
    refine mo_call (rest := []) hx hb hml hown hts hK hP (c_X4_worthOf l D cI o a μ hh (nI k) k rfl (by with_reducible assumption) (by first | with_reducible assumption | omega)) (kV_X4_worthOf hts ml_X4_99 ⟨(Nat.le_of_ble_eq_true rfl), (Nat.le_of_ble_eq_true rfl)⟩) rfl hl.1 rfl (Nat.le_of_ble_eq_true rfl) dX4_copyNow_44 (Nat.zero_le _) (Nat.zero_le _) ?_
    refine lv_bipush (v := 30) hx hb dX4_copyNow_47 (by decide) ?_
    refine lv_imul hx hb dX4_copyNow_49 ?_
    refine lv_bipush (v := 100) hx hb dX4_copyNow_50 (by decide) ?_
    refine lv_idiv hx hb dX4_copyNow_52 (by decide) ?_
    exact fin_i hx hb hr hlk (br_n c_1_6 (br_p c_1_7 rfl)) dX4_copyNow_53
  by_cases c_1_8 : w = 8
  · refine lv_sw_in (k := 8) (tgt := 54) hx hb dX4_copyNow_1 (congrArg nI c_1_8) (by decide) (by decide) rfl (by decide) ?_
    refine lv_aload_n hx hb dX4_copyNow_54 rfl (lv_at hl 0 rfl) ?_
    refine lv_iload_n hx hb dX4_copyNow_55 rfl (lv_at hl 1 rfl) ?_
    refine mo_call (rest := []) hx hb hml hown hts hK hP (c_X4_worthOf l D cI o a μ hh (nI k) k rfl (by with_reducible assumption) (by first | with_reducible assumption | omega)) (kV_X4_worthOf hts ml_X4_99 ⟨(Nat.le_of_ble_eq_true rfl), (Nat.le_of_ble_eq_true rfl)⟩) rfl hl.1 rfl (Nat.le_of_ble_eq_true rfl) dX4_copyNow_56 (Nat.zero_le _) (Nat.zero_le _) ?_
    refine lv_bipush (v := 75) hx hb dX4_copyNow_59 (by decide) ?_
    refine lv_imul hx hb dX4_copyNow_61 ?_
    refine lv_bipush (v := 100) hx hb dX4_copyNow_62 (by decide) ?_
    refine lv_idiv hx hb dX4_copyNow_64 (by decide) ?_
    exact fin_i hx hb hr hlk (br_n c_1_6 (br_n c_1_7 (br_p c_1_8 rfl))) dX4_copyNow_65
  by_cases c_1_9 : w = 9
  · refine lv_sw_in (k := 9) (tgt := 66) hx hb dX4_copyNow_1 (congrArg nI c_1_9) (by decide) (by decide) rfl (by decide) ?_
    refine lv_aload_n hx hb dX4_copyNow_66 rfl (lv_at hl 0 rfl) ?_
    refine lv_aload_n hx hb dX4_copyNow_67 rfl (lv_at hl 0 rfl) ?_
    refine lv_iload_n hx hb dX4_copyNow_68 rfl (lv_at hl 1 rfl) ?_
    refine lv_iconst (v := 0) hx hb dX4_copyNow_69 (by decide) ?_
    refine mo_call (rest := [.ref (o)]) hx hb hml hown hts hK hP (c_X4_of l D cI o a μ hh (nI k) k rfl 0 0 rfl (by first | with_reducible assumption | omega)) (kV_X4_of hts ml_X4_34 ⟨(Nat.le_of_ble_eq_true rfl), (Nat.le_of_ble_eq_true rfl)⟩) rfl hl.1 rfl (Nat.le_of_ble_eq_true rfl) dX4_copyNow_70 (Nat.zero_le _) (Nat.zero_le _) ?_
    refine lv_aload_n hx hb dX4_copyNow_73 rfl (lv_at hl 0 rfl) ?_
    refine lv_iload_n hx hb dX4_copyNow_74 rfl (lv_at hl 1 rfl) ?_
    refine lv_iconst (v := 1) hx hb dX4_copyNow_75 (by decide) ?_
    refine mo_call (rest := [.int ((f_X4_of μ k 0)), .ref (o)]) hx hb hml hown hts hK hP (c_X4_of l D cI o a μ hh (nI k) k rfl 1 1 rfl (by first | with_reducible assumption | omega)) (kV_X4_of hts ml_X4_34 ⟨(Nat.le_of_ble_eq_true rfl), (Nat.le_of_ble_eq_true rfl)⟩) rfl hl.1 rfl (Nat.le_of_ble_eq_true rfl) dX4_copyNow_76 (Nat.zero_le _) (Nat.zero_le _) ?_
    refine mo_call (rest := []) hx hb hml hown hts hK hP (c_X4_isOfUse l D cI o a μ hh (f_X4_of μ k 0) (f_X4_of μ k 1) (by with_reducible assumption)) (kV_X4_isOfUse hts ml_X4_59 ⟨(Nat.le_of_ble_eq_true rfl), (Nat.le_of_ble_eq_true rfl)⟩) rfl hl.1 rfl (Nat.le_of_ble_eq_true rfl) dX4_copyNow_79 (Nat.zero_le _) (Nat.zero_le _) ?_
    refine lv_if_eq (tgt := 89) hx hb dX4_copyNow_82 (by decide) (fun c_82 => ?_) (fun c_82 => ?_)
    · refine lv_iconst (v := 0) hx hb dX4_copyNow_89 (by decide) ?_
      exact fin_i hx hb hr hlk (br_n c_1_6 (br_n c_1_7 (br_n c_1_8 (br_p c_1_9 (br_p c_82 rfl))))) dX4_copyNow_90
    refine lv_iconst (v := 1) hx hb dX4_copyNow_85 (by decide) ?_
    refine lv_goto (tgt := 90) hx hb dX4_copyNow_86 (by decide) ?_
    exact fin_i hx hb hr hlk (br_n c_1_6 (br_n c_1_7 (br_n c_1_8 (br_p c_1_9 (br_n c_82 rfl))))) dX4_copyNow_90
  by_cases c_1_10 : w = 10
  · refine lv_sw_in (k := 10) (tgt := 91) hx hb dX4_copyNow_1 (congrArg nI c_1_10) (by decide) (by decide) rfl (by decide) ?_
    refine lv_aload_n hx hb dX4_copyNow_91 rfl (lv_at hl 0 rfl) ?_
    refine lv_iload_n hx hb dX4_copyNow_92 rfl (lv_at hl 1 rfl) ?_
    refine mo_call (rest := []) hx hb hml hown hts hK hP (c_X4_late l D cI o a μ hh (nI k) k rfl (by first | with_reducible assumption | omega)) (kV_X4_late hts ml_X4_102 ⟨(Nat.le_of_ble_eq_true rfl), (Nat.le_of_ble_eq_true rfl)⟩) rfl hl.1 rfl (Nat.le_of_ble_eq_true rfl) dX4_copyNow_93 (Nat.zero_le _) (Nat.zero_le _) ?_
    exact fin_i hx hb hr hlk (br_n c_1_6 (br_n c_1_7 (br_n c_1_8 (br_n c_1_9 (br_p c_1_10 rfl))))) dX4_copyNow_96
  refine lv_tableOut (tgt := 97) hx hb dX4_copyNow_1 (by first | (rw [nI_toInt (by omega)]; rw [nI_toInt (by omega)]; omega) | (rw [nI_toInt (by omega)]; omega)) (by decide) ?_
  refine lv_aload_n hx hb dX4_copyNow_97 rfl (lv_at hl 0 rfl) ?_
  refine lv_iload_n hx hb dX4_copyNow_98 rfl (lv_at hl 1 rfl) ?_
  refine lv_iload_n hx hb dX4_copyNow_99 rfl (lv_at hl 2 rfl) ?_
  refine mo_call (rest := []) hx hb hml hown hts hK hP (c_X4_of l D cI o a μ hh (nI k) k rfl (nI w) w rfl (by first | with_reducible assumption | omega)) (kV_X4_of hts ml_X4_34 ⟨(Nat.le_of_ble_eq_true rfl), (Nat.le_of_ble_eq_true rfl)⟩) rfl hl.1 rfl (Nat.le_of_ble_eq_true rfl) dX4_copyNow_100 (Nat.zero_le _) (Nat.zero_le _) ?_
  exact fin_i hx hb hr hlk (br_n c_1_6 (br_n c_1_7 (br_n c_1_8 (br_n c_1_9 (br_n c_1_10 rfl))))) dX4_copyNow_103
theorem kV_X4_copyNow {R : Room} {s : State} {args : Array Value} {own : String} {idx : Nat} {c0 : Cond} (hts : ∀ w ∈ c0 :: W0, w.before args s = true) (hl : Cond.methodLink own idx yX4_copyNow ∈ W0) (hR : rm_X4_copyNow.frames + 1 ≤ R.frames ∧ 8 + (3 + 11) + rm_X4_copyNow.locals ≤ R.locals) : CallW R s args own RX4 idx yX4_copyNow cX4_copyNow 3 (some .int) (Cond.code yX4_copyNow cX4_copyNow 3 (some .int) :: W0) rm_X4_copyNow 0 0 2 := cwV 2 hts (gdV hl mi_yX4_copyNow ms_yX4_copyNow mini_X4 mc_yX4_copyNow) rfl rfl rfl (by decide +kernel) hR

/-! X4.copy -/
def f_X4_copy (μ : Nat → Nat → Int32) (x : Int32) (y : Int32) : Int32 := (if (f_X4_isCopy μ x) = 0 then (-2) else (if (f_X4_in y 0 10) = 0 then (-3) else (f_X4_copyNow μ (tn x) (tn y))))
abbrev rm_X4_copy : Room := { frames := 4, cells := 0, slots := 0, locals := 89 }
set_option maxRecDepth 100000 in
theorem c_X4_copy (l : Launch) (D : va_G) (cI : ClassId) (o : Nat) (a : Nat → Nat) (μ : Nat → Nat → Int32) (hh : Int64) (x : Int32) (y : Int32) (hok : okM μ) :
    Met l yX4_copy (Cond.code yX4_copy cX4_copy 3 (some .int) :: W0) rm_X4_copy (va_Pc [.ref o, .int x, .int y] (moP D cI o a μ hh)) (vp_Si (fun r => r = f_X4_copy μ x y)) 0 0 (fun _ => False) := by
  refine st_gen (cc := cX4_copy) (maxL := 3) (ret := some .int) (own := RX4) (by decide) rfl (Nat.le_of_ble_eq_true rfl) ?_
  intro p e s m below meth c ls C hPre hl
  obtain ⟨hx, hb, hr, hml, hown, hts, hlk⟩ := C
  obtain ⟨hP, hK⟩ := hPre
  have hl : lv_has ls 3 [(0, .ref (o)), (1, .int (x)), (2, .int (y))] := hl
  obtain ⟨hT6, hC6, hN6, hS5⟩ := okM_b hok
  refine lv_aload_n hx hb dX4_copy_0 rfl (lv_at hl 0 rfl) ?_
  refine lv_iload_n hx hb dX4_copy_1 rfl (lv_at hl 1 rfl) ?_
  refine mo_call (rest := []) hx hb hml hown hts hK hP (c_X4_isCopy l D cI o a μ hh x) (kV_X4_isCopy hts ml_X4_105 ⟨(Nat.le_of_ble_eq_true rfl), (Nat.le_of_ble_eq_true rfl)⟩) rfl hl.1 rfl (Nat.le_of_ble_eq_true rfl) dX4_copy_2 (Nat.zero_le _) (Nat.zero_le _) ?_
  refine lv_if_ne (tgt := 11) hx hb dX4_copy_5 (by decide) (fun c_5 => ?_) (fun c_5 => ?_)
  · have v_5 := isCopy_okm (μ := μ) (by with_reducible assumption) c_5
    have vb_5 := v_5.1
    refine lv_iload_n hx hb dX4_copy_11 rfl (lv_at hl 2 rfl) ?_
    refine lv_iconst (v := 0) hx hb dX4_copy_12 (by decide) ?_
    refine lv_bipush (v := 10) hx hb dX4_copy_13 (by decide) ?_
    refine cl_S (rest := []) hx hb hml hown hts (c_X4_in l y 0 10) (kS_X4_in hts ml_X4_30 ⟨(Nat.le_of_ble_eq_true rfl), (Nat.le_of_ble_eq_true rfl)⟩) rfl hl.1 rfl (Nat.le_of_ble_eq_true rfl) dX4_copy_15 (Nat.zero_le _) (Nat.zero_le _) ?_
    refine lv_if_eq (tgt := 30) hx hb dX4_copy_18 (by decide) (fun c_18 => ?_) (fun c_18 => ?_)
    · refine lv_bipush (v := (-3)) hx hb dX4_copy_30 (by decide) ?_
      exact fin_i hx hb hr hlk (br_n c_5 (br_p c_18 rfl)) dX4_copy_32
    have v_18 := inN 10 c_18 (by decide) rfl (by decide)
    have vb_18 := v_18.1
    refine lv_aload_n hx hb dX4_copy_21 rfl (lv_at hl 0 rfl) ?_
    refine lv_iload_n hx hb dX4_copy_22 rfl (lv_at hl 1 rfl) ?_
    refine lv_iload_n hx hb dX4_copy_23 rfl (lv_at hl 2 rfl) ?_
    refine mo_call (rest := []) hx hb hml hown hts hK hP (c_X4_copyNow l D cI o a μ hh x (tn x) v_5.2 y (tn y) v_18.2 (by with_reducible assumption) (by first | with_reducible assumption | omega) (by first | with_reducible assumption | omega)) (kV_X4_copyNow hts ml_X4_108 ⟨(Nat.le_of_ble_eq_true rfl), (Nat.le_of_ble_eq_true rfl)⟩) rfl hl.1 rfl (Nat.le_of_ble_eq_true rfl) dX4_copy_24 (Nat.zero_le _) (Nat.zero_le _) ?_
    refine lv_goto (tgt := 32) hx hb dX4_copy_27 (by decide) ?_
    exact fin_i hx hb hr hlk (br_n c_5 (br_n c_18 rfl)) dX4_copy_32
  refine lv_bipush (v := (-2)) hx hb dX4_copy_8 (by decide) ?_
  exact fin_i hx hb hr hlk (br_p c_5 rfl) dX4_copy_10
theorem kV_X4_copy {R : Room} {s : State} {args : Array Value} {own : String} {idx : Nat} {c0 : Cond} (hts : ∀ w ∈ c0 :: W0, w.before args s = true) (hl : Cond.methodLink own idx yX4_copy ∈ W0) (hR : rm_X4_copy.frames + 1 ≤ R.frames ∧ 8 + (3 + 11) + rm_X4_copy.locals ≤ R.locals) : CallW R s args own RX4 idx yX4_copy cX4_copy 3 (some .int) (Cond.code yX4_copy cX4_copy 3 (some .int) :: W0) rm_X4_copy 0 0 2 := cwV 2 hts (gdV hl mi_yX4_copy ms_yX4_copy mini_X4 mc_yX4_copy) rfl rfl rfl (by decide +kernel) hR

/-! X4.sum -/
def g_X4_sum_20 (μ : Nat → Nat → Int32) (w : Nat) : Nat → (Nat) → (Int32) → Int32
  | 0, k, x2 => x2
  | fu + 1, k, x2 => (if 5 ≤ k then x2 else g_X4_sum_20 μ w fu (k + 1) (x2 + (μ 0 (8 + k))))
def f_X4_sum (μ : Nat → Nat → Int32) (w : Nat) : Int32 := (if 7 ≤ w then ((100000000 + (g_X4_sum_20 μ w (5 + 1) 0 0)) - (μ 0 13)) - (μ 0 14) else μ 0 (8 + w))
abbrev rm_X4_sum : Room := { frames := 0, cells := 0, slots := 0, locals := 0 }
set_option maxRecDepth 100000 in
theorem c_X4_sum (l : Launch) (D : va_G) (cI : ClassId) (o : Nat) (a : Nat → Nat) (μ : Nat → Nat → Int32) (hh : Int64) (x : Int32) (w : Nat) (hx : x = nI w) (hw : w ≤ 7) :
    Met l yX4_sum (Cond.code yX4_sum cX4_sum 4 (some .int) :: W0) rm_X4_sum (va_Pc [.ref o, .int x] (moP D cI o a μ hh)) (vp_Si (fun r => r = f_X4_sum μ w)) 0 0 (fun _ => False) := by
  subst hx
  refine st_gen (cc := cX4_sum) (maxL := 4) (ret := some .int) (own := RX4) (by decide) rfl (Nat.le_of_ble_eq_true rfl) ?_
  intro p e s m below meth c ls C hPre hl
  obtain ⟨hx, hb, hr, hml, hown, hts, hlk⟩ := C
  obtain ⟨hP, hK⟩ := hPre
  have hl : lv_has ls 4 [(0, .ref (o)), (1, .int (nI w))] := hl
  refine lv_iload_n hx hb dX4_sum_0 rfl (lv_at hl 1 rfl) ?_
  refine lv_bipush (v := 7) hx hb dX4_sum_1 (by decide) ?_
  refine lv_icmp_geN (w) (7) hx hb rfl rfl (by omega) (by omega) (tgt := 16) dX4_sum_3 (by decide) (fun c_3 => ?_) (fun c_3 => ?_)
  · refine lv_iconst (v := 0) hx hb dX4_sum_16 (by decide) ?_
    refine lv_istore_n (lv' := [(2, .int (0)), (0, .ref (o)), (1, .int (nI w))]) hx hb dX4_sum_17 rfl hl (by decide) rfl (fun ls hl => ?_)
    refine lv_iconst (v := 0) hx hb dX4_sum_18 (by decide) ?_
    refine lv_istore_n (lv' := [(3, .int (0)), (2, .int (0)), (0, .ref (o)), (1, .int (nI w))]) hx hb dX4_sum_19 rfl hl (by decide) rfl (fun ls hl => ?_)
    have K_43 : ∀ ls, lv_has ls 4 [(0, .ref (o)), (1, .int (nI w)), (2, .int ((g_X4_sum_20 μ w (5 + 1) 0 0)))] → W p l e rm_X4_sum s m (([.ref (o), .int (nI w)] : List Value).toArray) below meth c s.heap [] 0 0 (MQ below (vp_Si (fun r => r = f_X4_sum μ w)) ([.ref (o), .int (nI w)] : List Value).toArray s 0 0 (fun _ => False)) (F0 m 43 ls []) := by
      intro ls hl
      refine lv_ldc (v := 100000000) hx hb hown (hts _ (List.mem_cons_of_mem _ mk_X4_111)) dX4_sum_43 ?_
      refine lv_iload_n hx hb dX4_sum_45 rfl (lv_at hl 2 rfl) ?_
      refine lv_iadd hx hb dX4_sum_46 ?_
      refine lv_aload_n hx hb dX4_sum_47 rfl (lv_at hl 0 rfl) ?_
      refine mo_g0 hx hb hts hown hK hP dX4_sum_48 ?_
      refine lv_bipush (v := 13) hx hb dX4_sum_51 (by decide) ?_
      refine mo_r0 hx hb hK hP (13) rfl (by omega) (v := μ 0 13) rfl dX4_sum_53 ?_
      refine lv_isub hx hb dX4_sum_54 ?_
      refine lv_aload_n hx hb dX4_sum_55 rfl (lv_at hl 0 rfl) ?_
      refine mo_g0 hx hb hts hown hK hP dX4_sum_56 ?_
      refine lv_bipush (v := 14) hx hb dX4_sum_59 (by decide) ?_
      refine mo_r0 hx hb hK hP (14) rfl (by omega) (v := μ 0 14) rfl dX4_sum_61 ?_
      refine lv_isub hx hb dX4_sum_62 ?_
      exact fin_i hx hb hr hlk (br_p c_3 rfl) dX4_sum_63
    have L_20 : ∀ (fu : Nat) (k : Nat) (x2 : Int32), 5 - k < fu → k ≤ 5 → g_X4_sum_20 μ w fu k x2 = g_X4_sum_20 μ w (5 + 1) 0 0 → ∀ ls, lv_has ls 4 [(0, .ref (o)), (1, .int (nI w)), (3, .int (nI k)), (2, .int (x2))] → W p l e rm_X4_sum s m (([.ref (o), .int (nI w)] : List Value).toArray) below meth c s.heap [] 0 0 (MQ below (vp_Si (fun r => r = f_X4_sum μ w)) ([.ref (o), .int (nI w)] : List Value).toArray s 0 0 (fun _ => False)) (F0 m 20 ls []) := by
      intro fu
      induction fu with
      | zero => intro k x2 hm; exact absurd hm (Nat.not_lt_zero _)
      | succ fu ih =>
        intro k x2 hm hkN hg_20 ls hl
        refine lv_iload_n hx hb dX4_sum_20 rfl (lv_at hl 2 rfl) ?_
        refine lv_iconst (v := 5) hx hb dX4_sum_21 (by decide) ?_
        refine lv_icmp_geN (k) (5) hx hb rfl rfl (by omega) (by omega) (tgt := 43) dX4_sum_22 (by decide) (fun c_22 => ?_) (fun c_22 => ?_)
        · have ex : x2 = g_X4_sum_20 μ w (5 + 1) 0 0 := ((br_p c_22 rfl) : x2 = g_X4_sum_20 μ w (fu + 1) k x2).trans hg_20
          exact K_43 ls (by rw [← ex]; exact lv_sub hl [0, 1, 3] rfl)
        refine lv_iload_n hx hb dX4_sum_25 rfl (lv_at hl 3 rfl) ?_
        refine lv_aload_n hx hb dX4_sum_26 rfl (lv_at hl 0 rfl) ?_
        refine mo_g0 hx hb hts hown hK hP dX4_sum_27 ?_
        refine lv_bipush (v := 8) hx hb dX4_sum_30 (by decide) ?_
        refine lv_iload_n hx hb dX4_sum_32 rfl (lv_at hl 2 rfl) ?_
        refine lv_iaddN (x := 8) (y := k) hx hb rfl rfl dX4_sum_33 ?_
        refine mo_r0 hx hb hK hP ((8 + k)) rfl (by omega) (v := μ 0 (8 + k)) rfl dX4_sum_34 ?_
        refine lv_iadd hx hb dX4_sum_35 ?_
        refine lv_istore_n (lv' := [(2, .int (x2 + (μ 0 (8 + k)))), (0, .ref (o)), (1, .int (nI w)), (3, .int (nI k))]) hx hb dX4_sum_36 rfl hl (by decide) rfl (fun ls hl => ?_)
        refine lv_iinc (v := nI (k + 1)) (lv' := [(3, .int (nI (k + 1))), (2, .int (x2 + (μ 0 (8 + k)))), (0, .ref (o)), (1, .int (nI w))]) hx hb dX4_sum_37 hl (k := 3) rfl (nI_c1 _) (by decide) rfl (fun ls hl => ?_)
        refine lv_goto (tgt := 20) hx hb dX4_sum_40 (by decide) ?_
        exact ih (k + 1) (x2 + (μ 0 (8 + k))) (by omega) (by omega) (((br_n c_22 rfl) : g_X4_sum_20 μ w fu (k + 1) (x2 + (μ 0 (8 + k))) = g_X4_sum_20 μ w (fu + 1) k x2).trans hg_20) ls (lv_sub hl [2, 3, 0, 1] rfl)
    exact L_20 (5 + 1) 0 0 (by omega) (by omega) rfl ls (lv_sub hl [2, 3, 0, 1] rfl)
  refine lv_aload_n hx hb dX4_sum_6 rfl (lv_at hl 0 rfl) ?_
  refine mo_g0 hx hb hts hown hK hP dX4_sum_7 ?_
  refine lv_bipush (v := 8) hx hb dX4_sum_10 (by decide) ?_
  refine lv_iload_n hx hb dX4_sum_12 rfl (lv_at hl 1 rfl) ?_
  refine lv_iaddN (x := 8) (y := w) hx hb rfl rfl dX4_sum_13 ?_
  refine mo_r0 hx hb hK hP ((8 + w)) rfl (by omega) (v := μ 0 (8 + w)) rfl dX4_sum_14 ?_
  exact fin_i hx hb hr hlk (br_n c_3 rfl) dX4_sum_15
theorem kV_X4_sum {R : Room} {s : State} {args : Array Value} {own : String} {idx : Nat} {c0 : Cond} (hts : ∀ w ∈ c0 :: W0, w.before args s = true) (hl : Cond.methodLink own idx yX4_sum ∈ W0) (hR : rm_X4_sum.frames + 1 ≤ R.frames ∧ 8 + (4 + 11) + rm_X4_sum.locals ≤ R.locals) : CallW R s args own RX4 idx yX4_sum cX4_sum 4 (some .int) (Cond.code yX4_sum cX4_sum 4 (some .int) :: W0) rm_X4_sum 0 0 1 := cwV 1 hts (gdV hl mi_yX4_sum ms_yX4_sum mini_X4 mc_yX4_sum) rfl rfl rfl (by decide +kernel) hR

/-! X4.book -/
def f_X4_book (μ : Nat → Nat → Int32) (x : Int32) : Int32 := (if (f_X4_in x 0 7) = 0 then (-3) else (f_X4_sum μ (tn x)))
abbrev rm_X4_book : Room := { frames := 1, cells := 0, slots := 0, locals := 23 }
set_option maxRecDepth 100000 in
theorem c_X4_book (l : Launch) (D : va_G) (cI : ClassId) (o : Nat) (a : Nat → Nat) (μ : Nat → Nat → Int32) (hh : Int64) (x : Int32) :
    Met l yX4_book (Cond.code yX4_book cX4_book 2 (some .int) :: W0) rm_X4_book (va_Pc [.ref o, .int x] (moP D cI o a μ hh)) (vp_Si (fun r => r = f_X4_book μ x)) 0 0 (fun _ => False) := by
  refine st_gen (cc := cX4_book) (maxL := 2) (ret := some .int) (own := RX4) (by decide) rfl (Nat.le_of_ble_eq_true rfl) ?_
  intro p e s m below meth c ls C hPre hl
  obtain ⟨hx, hb, hr, hml, hown, hts, hlk⟩ := C
  obtain ⟨hP, hK⟩ := hPre
  have hl : lv_has ls 2 [(0, .ref (o)), (1, .int (x))] := hl
  refine lv_iload_n hx hb dX4_book_0 rfl (lv_at hl 1 rfl) ?_
  refine lv_iconst (v := 0) hx hb dX4_book_1 (by decide) ?_
  refine lv_bipush (v := 7) hx hb dX4_book_2 (by decide) ?_
  refine cl_S (rest := []) hx hb hml hown hts (c_X4_in l x 0 7) (kS_X4_in hts ml_X4_30 ⟨(Nat.le_of_ble_eq_true rfl), (Nat.le_of_ble_eq_true rfl)⟩) rfl hl.1 rfl (Nat.le_of_ble_eq_true rfl) dX4_book_4 (Nat.zero_le _) (Nat.zero_le _) ?_
  refine lv_if_eq (tgt := 18) hx hb dX4_book_7 (by decide) (fun c_7 => ?_) (fun c_7 => ?_)
  · refine lv_bipush (v := (-3)) hx hb dX4_book_18 (by decide) ?_
    exact fin_i hx hb hr hlk (br_p c_7 rfl) dX4_book_20
  have v_7 := inN 7 c_7 (by decide) rfl (by decide)
  have vb_7 := v_7.1
  refine lv_aload_n hx hb dX4_book_10 rfl (lv_at hl 0 rfl) ?_
  refine lv_iload_n hx hb dX4_book_11 rfl (lv_at hl 1 rfl) ?_
  refine mo_call (rest := []) hx hb hml hown hts hK hP (c_X4_sum l D cI o a μ hh x (tn x) v_7.2 (by first | with_reducible assumption | omega)) (kV_X4_sum hts ml_X4_112 ⟨(Nat.le_of_ble_eq_true rfl), (Nat.le_of_ble_eq_true rfl)⟩) rfl hl.1 rfl (Nat.le_of_ble_eq_true rfl) dX4_book_12 (Nat.zero_le _) (Nat.zero_le _) ?_
  refine lv_goto (tgt := 20) hx hb dX4_book_15 (by decide) ?_
  exact fin_i hx hb hr hlk (br_n c_7 rfl) dX4_book_20
theorem kV_X4_book {R : Room} {s : State} {args : Array Value} {own : String} {idx : Nat} {c0 : Cond} (hts : ∀ w ∈ c0 :: W0, w.before args s = true) (hl : Cond.methodLink own idx yX4_book ∈ W0) (hR : rm_X4_book.frames + 1 ≤ R.frames ∧ 8 + (2 + 11) + rm_X4_book.locals ≤ R.locals) : CallW R s args own RX4 idx yX4_book cX4_book 2 (some .int) (Cond.code yX4_book cX4_book 2 (some .int) :: W0) rm_X4_book 0 0 1 := cwV 1 hts (gdV hl mi_yX4_book ms_yX4_book mini_X4 mc_yX4_book) rfl rfl rfl (by decide +kernel) hR

/-! X4.comes -/
def s_X4_comes (μ : Nat → Nat → Int32) (x : Int32) (y : Int32) (z : Int32) : Nat → Nat → Int32 := (shU (s_X4_sets (s_X4_sets (s_X4_sets (s_X4_sets (s_X4_sets (s_X4_sets μ (tn (μ 0 1)) 0 x) (tn (μ 0 1)) 1 y) (tn (μ 0 1)) 2 z) (tn (μ 0 1)) 3 0) (tn (μ 0 1)) 4 (-1)) (tn (μ 0 1)) 5 (-1)) 0 1 (((s_X4_sets (s_X4_sets (s_X4_sets (s_X4_sets (s_X4_sets (s_X4_sets μ (tn (μ 0 1)) 0 x) (tn (μ 0 1)) 1 y) (tn (μ 0 1)) 2 z) (tn (μ 0 1)) 3 0) (tn (μ 0 1)) 4 (-1)) (tn (μ 0 1)) 5 (-1)) 0 1) + 1))
abbrev rm_X4_comes : Room := { frames := 1, cells := 0, slots := 0, locals := 23 }
set_option maxRecDepth 100000 in
theorem c_X4_comes (l : Launch) (D : va_G) (cI : ClassId) (o : Nat) (a : Nat → Nat) (μ : Nat → Nat → Int32) (hh : Int64) (x : Int32) (y : Int32) (z : Int32) (hn : μ 0 1 = nI (tn (μ 0 1))) (hn2 : tn (μ 0 1) < 60) :
    Met l yX4_comes (Cond.code yX4_comes cX4_comes 5 (none) :: W0) rm_X4_comes (va_Pc [.ref o, .int x, .int y, .int z] (moM D cI o a μ hh)) (moV D cI o a hh (s_X4_comes μ x y z)) 0 0 (moA o a) := by
  refine st_gen (cc := cX4_comes) (maxL := 5) (ret := none) (own := RX4) (by decide) rfl (Nat.le_of_ble_eq_true rfl) ?_
  intro p e s m below meth c ls C hPre hl
  obtain ⟨hx, hb, hr, hml, hown, hts, hlk⟩ := C
  obtain ⟨⟨hP, hK⟩, hD⟩ := hPre
  have hS : va_S (moA o a) s.heap s.heap [] := va_S.rf
  have hl : lv_has ls 5 [(0, .ref (o)), (1, .int (x)), (2, .int (y)), (3, .int (z))] := hl
  refine lv_aload_n hx hb dX4_comes_0 rfl (lv_at hl 0 rfl) ?_
  refine mo_g0 hx hb hts hown hK hP dX4_comes_1 ?_
  refine lv_iconst (v := 1) hx hb dX4_comes_4 (by decide) ?_
  refine mo_r0 hx hb hK hP (1) rfl (by omega) (v := μ 0 1) rfl dX4_comes_5 ?_
  refine lv_istore (lv' := [(4, .int (μ 0 1)), (0, .ref (o)), (1, .int (x)), (2, .int (y)), (3, .int (z))]) hx hb dX4_comes_6 hl (by decide) rfl (fun ls hl => ?_)
  refine lv_aload_n hx hb dX4_comes_8 rfl (lv_at hl 1 rfl) ?_
  refine lv_iload hx hb dX4_comes_9 (lv_at hl 0 rfl) ?_
  refine lv_iconst (v := 0) hx hb dX4_comes_11 (by decide) ?_
  refine lv_iload_n hx hb dX4_comes_12 rfl (lv_at hl 2 rfl) ?_
  refine mo_callV (rest := []) hx hb hml hown hts hK hP hD hS (c_X4_sets l D cI o a μ hh (μ 0 1) (tn (μ 0 1)) hn 0 0 rfl x (by first | with_reducible assumption | omega)) (kV_X4_sets hts ml_X4_115 ⟨(Nat.le_of_ble_eq_true rfl), (Nat.le_of_ble_eq_true rfl)⟩) rfl hl.1 rfl (Nat.le_of_ble_eq_true rfl) dX4_comes_13 (Nat.zero_le _) (Nat.zero_le _) (fun H locs hP hS => ?_)
  refine lv_aload_n hx hb dX4_comes_16 rfl (lv_at hl 1 rfl) ?_
  refine lv_iload hx hb dX4_comes_17 (lv_at hl 0 rfl) ?_
  refine lv_iconst (v := 1) hx hb dX4_comes_19 (by decide) ?_
  refine lv_iload_n hx hb dX4_comes_20 rfl (lv_at hl 3 rfl) ?_
  refine mo_callV (rest := []) hx hb hml hown hts hK hP hD hS (c_X4_sets l D cI o a (s_X4_sets μ (tn (μ 0 1)) 0 x) hh (μ 0 1) (tn (μ 0 1)) hn 1 1 rfl y (by first | with_reducible assumption | omega)) (kV_X4_sets hts ml_X4_115 ⟨(Nat.le_of_ble_eq_true rfl), (Nat.le_of_ble_eq_true rfl)⟩) rfl hl.1 rfl (Nat.le_of_ble_eq_true rfl) dX4_comes_21 (Nat.zero_le _) (Nat.zero_le _) (fun H locs hP hS => ?_)
  refine lv_aload_n hx hb dX4_comes_24 rfl (lv_at hl 1 rfl) ?_
  refine lv_iload hx hb dX4_comes_25 (lv_at hl 0 rfl) ?_
  refine lv_iconst (v := 2) hx hb dX4_comes_27 (by decide) ?_
  refine lv_iload_n hx hb dX4_comes_28 rfl (lv_at hl 4 rfl) ?_
  refine mo_callV (rest := []) hx hb hml hown hts hK hP hD hS (c_X4_sets l D cI o a (s_X4_sets (s_X4_sets μ (tn (μ 0 1)) 0 x) (tn (μ 0 1)) 1 y) hh (μ 0 1) (tn (μ 0 1)) hn 2 2 rfl z (by first | with_reducible assumption | omega)) (kV_X4_sets hts ml_X4_115 ⟨(Nat.le_of_ble_eq_true rfl), (Nat.le_of_ble_eq_true rfl)⟩) rfl hl.1 rfl (Nat.le_of_ble_eq_true rfl) dX4_comes_29 (Nat.zero_le _) (Nat.zero_le _) (fun H locs hP hS => ?_)
  refine lv_aload_n hx hb dX4_comes_32 rfl (lv_at hl 1 rfl) ?_
  refine lv_iload hx hb dX4_comes_33 (lv_at hl 0 rfl) ?_
  refine lv_iconst (v := 3) hx hb dX4_comes_35 (by decide) ?_
  refine lv_iconst (v := 0) hx hb dX4_comes_36 (by decide) ?_
  refine mo_callV (rest := []) hx hb hml hown hts hK hP hD hS (c_X4_sets l D cI o a (s_X4_sets (s_X4_sets (s_X4_sets μ (tn (μ 0 1)) 0 x) (tn (μ 0 1)) 1 y) (tn (μ 0 1)) 2 z) hh (μ 0 1) (tn (μ 0 1)) hn 3 3 rfl 0 (by first | with_reducible assumption | omega)) (kV_X4_sets hts ml_X4_115 ⟨(Nat.le_of_ble_eq_true rfl), (Nat.le_of_ble_eq_true rfl)⟩) rfl hl.1 rfl (Nat.le_of_ble_eq_true rfl) dX4_comes_37 (Nat.zero_le _) (Nat.zero_le _) (fun H locs hP hS => ?_)
  refine lv_aload_n hx hb dX4_comes_40 rfl (lv_at hl 1 rfl) ?_
  refine lv_iload hx hb dX4_comes_41 (lv_at hl 0 rfl) ?_
  refine lv_iconst (v := 4) hx hb dX4_comes_43 (by decide) ?_
  refine lv_iconst (v := (-1)) hx hb dX4_comes_44 (by decide) ?_
  refine mo_callV (rest := []) hx hb hml hown hts hK hP hD hS (c_X4_sets l D cI o a (s_X4_sets (s_X4_sets (s_X4_sets (s_X4_sets μ (tn (μ 0 1)) 0 x) (tn (μ 0 1)) 1 y) (tn (μ 0 1)) 2 z) (tn (μ 0 1)) 3 0) hh (μ 0 1) (tn (μ 0 1)) hn 4 4 rfl (-1) (by first | with_reducible assumption | omega)) (kV_X4_sets hts ml_X4_115 ⟨(Nat.le_of_ble_eq_true rfl), (Nat.le_of_ble_eq_true rfl)⟩) rfl hl.1 rfl (Nat.le_of_ble_eq_true rfl) dX4_comes_45 (Nat.zero_le _) (Nat.zero_le _) (fun H locs hP hS => ?_)
  refine lv_aload_n hx hb dX4_comes_48 rfl (lv_at hl 1 rfl) ?_
  refine lv_iload hx hb dX4_comes_49 (lv_at hl 0 rfl) ?_
  refine lv_iconst (v := 5) hx hb dX4_comes_51 (by decide) ?_
  refine lv_iconst (v := (-1)) hx hb dX4_comes_52 (by decide) ?_
  refine mo_callV (rest := []) hx hb hml hown hts hK hP hD hS (c_X4_sets l D cI o a (s_X4_sets (s_X4_sets (s_X4_sets (s_X4_sets (s_X4_sets μ (tn (μ 0 1)) 0 x) (tn (μ 0 1)) 1 y) (tn (μ 0 1)) 2 z) (tn (μ 0 1)) 3 0) (tn (μ 0 1)) 4 (-1)) hh (μ 0 1) (tn (μ 0 1)) hn 5 5 rfl (-1) (by first | with_reducible assumption | omega)) (kV_X4_sets hts ml_X4_115 ⟨(Nat.le_of_ble_eq_true rfl), (Nat.le_of_ble_eq_true rfl)⟩) rfl hl.1 rfl (Nat.le_of_ble_eq_true rfl) dX4_comes_53 (Nat.zero_le _) (Nat.zero_le _) (fun H locs hP hS => ?_)
  refine lv_aload_n hx hb dX4_comes_56 rfl (lv_at hl 1 rfl) ?_
  refine mo_g0 hx hb hts hown hK hP dX4_comes_57 ?_
  refine lv_iconst (v := 1) hx hb dX4_comes_60 (by decide) ?_
  refine lv_dup2_11 hx hb dX4_comes_61 rfl rfl ?_
  refine mo_r0 hx hb hK hP (1) rfl (by omega) (v := (s_X4_sets (s_X4_sets (s_X4_sets (s_X4_sets (s_X4_sets (s_X4_sets μ (tn (μ 0 1)) 0 x) (tn (μ 0 1)) 1 y) (tn (μ 0 1)) 2 z) (tn (μ 0 1)) 3 0) (tn (μ 0 1)) 4 (-1)) (tn (μ 0 1)) 5 (-1)) 0 1) rfl dX4_comes_62 ?_
  refine lv_iconst (v := 1) hx hb dX4_comes_63 (by decide) ?_
  refine lv_iadd hx hb dX4_comes_64 ?_
  refine mo_w0 hx hb hK hP hD hS (1) rfl (by omega) dX4_comes_65 (fun H locs hP hS => ?_)
  exact mo_finV hx hb hr hlk hK hP hS rfl dX4_comes_66
theorem kV_X4_comes {R : Room} {s : State} {args : Array Value} {own : String} {idx : Nat} {c0 : Cond} (hts : ∀ w ∈ c0 :: W0, w.before args s = true) (hl : Cond.methodLink own idx yX4_comes ∈ W0) (hR : rm_X4_comes.frames + 1 ≤ R.frames ∧ 8 + (5 + 11) + rm_X4_comes.locals ≤ R.locals) : CallW R s args own RX4 idx yX4_comes cX4_comes 5 (none) (Cond.code yX4_comes cX4_comes 5 (none) :: W0) rm_X4_comes 0 0 3 := cwV 3 hts (gdV hl mi_yX4_comes ms_yX4_comes mini_X4 mc_yX4_comes) rfl rfl rfl (by decide +kernel) hR

theorem comes_1 {μ : Nat → Nat → Int32} {x y z : Int32} : s_X4_comes μ x y z 0 1 = μ 0 1 + 1 := by
  unfold s_X4_comes s_X4_sets
  rw [shU_eq]
  simp only [shU_ne (show 1 ≠ 53 + 6 * tn (μ 0 1) + 0 by omega), shU_ne (show 1 ≠ 53 + 6 * tn (μ 0 1) + 1 by omega), shU_ne (show 1 ≠ 53 + 6 * tn (μ 0 1) + 2 by omega), shU_ne (show 1 ≠ 53 + 6 * tn (μ 0 1) + 3 by omega), shU_ne (show 1 ≠ 53 + 6 * tn (μ 0 1) + 4 by omega), shU_ne (show 1 ≠ 53 + 6 * tn (μ 0 1) + 5 by omega)]
theorem sets_f {μ : Nat → Nat → Int32} {k w f : Nat} {v : Int32} (hf : f ≠ 0) : s_X4_sets μ k w v f = μ f := shU_f hf
theorem sets_at {μ : Nat → Nat → Int32} {k w j : Nat} {v : Int32} : s_X4_sets μ k w v 0 j = if j = 53 + 6 * k + w then v else μ 0 j := shU_at
theorem sets_ne {μ : Nat → Nat → Int32} {k w j : Nat} {v : Int32} (h : j ≠ 53 + 6 * k + w) : s_X4_sets μ k w v 0 j = μ 0 j := shU_ne h

/-! X4.goes -/
def s_X4_goes (μ : Nat → Nat → Int32) (k : Nat) (y : Int32) : Nat → Nat → Int32 := (s_X4_sets (s_X4_sets (s_X4_sets μ k 3 y) k 4 (-1)) k 5 (-1))
abbrev rm_X4_goes : Room := { frames := 1, cells := 0, slots := 0, locals := 23 }
set_option maxRecDepth 100000 in
theorem c_X4_goes (l : Launch) (D : va_G) (cI : ClassId) (o : Nat) (a : Nat → Nat) (μ : Nat → Nat → Int32) (hh : Int64) (x : Int32) (k : Nat) (hx : x = nI k) (y : Int32) (hkw : k < 400) :
    Met l yX4_goes (Cond.code yX4_goes cX4_goes 3 (none) :: W0) rm_X4_goes (va_Pc [.ref o, .int x, .int y] (moM D cI o a μ hh)) (moV D cI o a hh (s_X4_goes μ k y)) 0 0 (moA o a) := by
  subst hx
  refine st_gen (cc := cX4_goes) (maxL := 3) (ret := none) (own := RX4) (by decide) rfl (Nat.le_of_ble_eq_true rfl) ?_
  intro p e s m below meth c ls C hPre hl
  obtain ⟨hx, hb, hr, hml, hown, hts, hlk⟩ := C
  obtain ⟨⟨hP, hK⟩, hD⟩ := hPre
  have hS : va_S (moA o a) s.heap s.heap [] := va_S.rf
  have hl : lv_has ls 3 [(0, .ref (o)), (1, .int (nI k)), (2, .int (y))] := hl
  refine lv_aload_n hx hb dX4_goes_0 rfl (lv_at hl 0 rfl) ?_
  refine lv_iload_n hx hb dX4_goes_1 rfl (lv_at hl 1 rfl) ?_
  refine lv_iconst (v := 3) hx hb dX4_goes_2 (by decide) ?_
  refine lv_iload_n hx hb dX4_goes_3 rfl (lv_at hl 2 rfl) ?_
  refine mo_callV (rest := []) hx hb hml hown hts hK hP hD hS (c_X4_sets l D cI o a μ hh (nI k) k rfl 3 3 rfl y (by first | with_reducible assumption | omega)) (kV_X4_sets hts ml_X4_115 ⟨(Nat.le_of_ble_eq_true rfl), (Nat.le_of_ble_eq_true rfl)⟩) rfl hl.1 rfl (Nat.le_of_ble_eq_true rfl) dX4_goes_4 (Nat.zero_le _) (Nat.zero_le _) (fun H locs hP hS => ?_)
  refine lv_aload_n hx hb dX4_goes_7 rfl (lv_at hl 0 rfl) ?_
  refine lv_iload_n hx hb dX4_goes_8 rfl (lv_at hl 1 rfl) ?_
  refine lv_iconst (v := 4) hx hb dX4_goes_9 (by decide) ?_
  refine lv_iconst (v := (-1)) hx hb dX4_goes_10 (by decide) ?_
  refine mo_callV (rest := []) hx hb hml hown hts hK hP hD hS (c_X4_sets l D cI o a (s_X4_sets μ k 3 y) hh (nI k) k rfl 4 4 rfl (-1) (by first | with_reducible assumption | omega)) (kV_X4_sets hts ml_X4_115 ⟨(Nat.le_of_ble_eq_true rfl), (Nat.le_of_ble_eq_true rfl)⟩) rfl hl.1 rfl (Nat.le_of_ble_eq_true rfl) dX4_goes_11 (Nat.zero_le _) (Nat.zero_le _) (fun H locs hP hS => ?_)
  refine lv_aload_n hx hb dX4_goes_14 rfl (lv_at hl 0 rfl) ?_
  refine lv_iload_n hx hb dX4_goes_15 rfl (lv_at hl 1 rfl) ?_
  refine lv_iconst (v := 5) hx hb dX4_goes_16 (by decide) ?_
  refine lv_iconst (v := (-1)) hx hb dX4_goes_17 (by decide) ?_
  refine mo_callV (rest := []) hx hb hml hown hts hK hP hD hS (c_X4_sets l D cI o a (s_X4_sets (s_X4_sets μ k 3 y) k 4 (-1)) hh (nI k) k rfl 5 5 rfl (-1) (by first | with_reducible assumption | omega)) (kV_X4_sets hts ml_X4_115 ⟨(Nat.le_of_ble_eq_true rfl), (Nat.le_of_ble_eq_true rfl)⟩) rfl hl.1 rfl (Nat.le_of_ble_eq_true rfl) dX4_goes_18 (Nat.zero_le _) (Nat.zero_le _) (fun H locs hP hS => ?_)
  exact mo_finV hx hb hr hlk hK hP hS rfl dX4_goes_21
theorem kV_X4_goes {R : Room} {s : State} {args : Array Value} {own : String} {idx : Nat} {c0 : Cond} (hts : ∀ w ∈ c0 :: W0, w.before args s = true) (hl : Cond.methodLink own idx yX4_goes ∈ W0) (hR : rm_X4_goes.frames + 1 ≤ R.frames ∧ 8 + (3 + 11) + rm_X4_goes.locals ≤ R.locals) : CallW R s args own RX4 idx yX4_goes cX4_goes 3 (none) (Cond.code yX4_goes cX4_goes 3 (none) :: W0) rm_X4_goes 0 0 2 := cwV 2 hts (gdV hl mi_yX4_goes ms_yX4_goes mini_X4 mc_yX4_goes) rfl rfl rfl (by decide +kernel) hR

theorem goes_at {μ : Nat → Nat → Int32} {k j : Nat} {v : Int32} : s_X4_goes μ k v 0 j = if j = 53 + 6 * k + 5 then (-1) else if j = 53 + 6 * k + 4 then (-1) else if j = 53 + 6 * k + 3 then v else μ 0 j := by
  unfold s_X4_goes
  rw [sets_at, sets_at, sets_at]
theorem goes_f {μ : Nat → Nat → Int32} {k f : Nat} {v : Int32} (hf : f ≠ 0) : s_X4_goes μ k v f = μ f := by
  unfold s_X4_goes
  rw [sets_f hf, sets_f hf, sets_f hf]

/-! X4.cannotBuy -/
def f_X4_cannotBuy (μ : Nat → Nat → Int32) (x : Int32) (y : Int32) : Int32 := (if (f_X4_isTitle μ x) = 0 then (-2) else (if (f_X4_in y 1 20) = 0 then (-3) else (if ((μ 0 1) + y) ≤ 60 then 0 else (-5))))
abbrev rm_X4_cannotBuy : Room := { frames := 2, cells := 0, slots := 0, locals := 43 }
set_option maxRecDepth 100000 in
theorem c_X4_cannotBuy (l : Launch) (D : va_G) (cI : ClassId) (o : Nat) (a : Nat → Nat) (μ : Nat → Nat → Int32) (hh : Int64) (x : Int32) (y : Int32) (hok : okM μ) :
    Met l yX4_cannotBuy (Cond.code yX4_cannotBuy cX4_cannotBuy 3 (some .int) :: W0) rm_X4_cannotBuy (va_Pc [.ref o, .int x, .int y] (moP D cI o a μ hh)) (vp_Si (fun r => r = f_X4_cannotBuy μ x y)) 0 0 (fun _ => False) := by
  refine st_gen (cc := cX4_cannotBuy) (maxL := 3) (ret := some .int) (own := RX4) (by decide) rfl (Nat.le_of_ble_eq_true rfl) ?_
  intro p e s m below meth c ls C hPre hl
  obtain ⟨hx, hb, hr, hml, hown, hts, hlk⟩ := C
  obtain ⟨hP, hK⟩ := hPre
  have hl : lv_has ls 3 [(0, .ref (o)), (1, .int (x)), (2, .int (y))] := hl
  obtain ⟨hT6, hC6, hN6, hS5⟩ := okM_b hok
  refine lv_aload_n hx hb dX4_cannotBuy_0 rfl (lv_at hl 0 rfl) ?_
  refine lv_iload_n hx hb dX4_cannotBuy_1 rfl (lv_at hl 1 rfl) ?_
  refine mo_call (rest := []) hx hb hml hown hts hK hP (c_X4_isTitle l D cI o a μ hh x) (kV_X4_isTitle hts ml_X4_65 ⟨(Nat.le_of_ble_eq_true rfl), (Nat.le_of_ble_eq_true rfl)⟩) rfl hl.1 rfl (Nat.le_of_ble_eq_true rfl) dX4_cannotBuy_2 (Nat.zero_le _) (Nat.zero_le _) ?_
  refine lv_if_ne (tgt := 11) hx hb dX4_cannotBuy_5 (by decide) (fun c_5 => ?_) (fun c_5 => ?_)
  · have v_5 := isTitle_okm (μ := μ) (by with_reducible assumption) c_5
    have vb_5 := v_5.1
    refine lv_iload_n hx hb dX4_cannotBuy_11 rfl (lv_at hl 2 rfl) ?_
    refine lv_iconst (v := 1) hx hb dX4_cannotBuy_12 (by decide) ?_
    refine lv_bipush (v := 20) hx hb dX4_cannotBuy_13 (by decide) ?_
    refine cl_S (rest := []) hx hb hml hown hts (c_X4_in l y 1 20) (kS_X4_in hts ml_X4_30 ⟨(Nat.le_of_ble_eq_true rfl), (Nat.le_of_ble_eq_true rfl)⟩) rfl hl.1 rfl (Nat.le_of_ble_eq_true rfl) dX4_cannotBuy_15 (Nat.zero_le _) (Nat.zero_le _) ?_
    refine lv_if_ne (tgt := 24) hx hb dX4_cannotBuy_18 (by decide) (fun c_18 => ?_) (fun c_18 => ?_)
    · have v_18 := inN 20 c_18 (by decide) rfl (by decide)
      have vb_18 := v_18.1
      refine lv_aload_n hx hb dX4_cannotBuy_24 rfl (lv_at hl 0 rfl) ?_
      refine mo_g0 hx hb hts hown hK hP dX4_cannotBuy_25 ?_
      refine lv_iconst (v := 1) hx hb dX4_cannotBuy_28 (by decide) ?_
      refine mo_r0 hx hb hK hP (1) rfl (by omega) (v := μ 0 1) rfl dX4_cannotBuy_29 ?_
      refine lv_iload_n hx hb dX4_cannotBuy_30 rfl (lv_at hl 2 rfl) ?_
      refine lv_iadd hx hb dX4_cannotBuy_31 ?_
      refine lv_bipush (v := 60) hx hb dX4_cannotBuy_32 (by decide) ?_
      refine lv_icmp_le (tgt := 42) hx hb dX4_cannotBuy_34 (by decide) (fun c_34 => ?_) (fun c_34 => ?_)
      · refine lv_iconst (v := 0) hx hb dX4_cannotBuy_42 (by decide) ?_
        exact fin_i hx hb hr hlk (br_n c_5 (br_n c_18 (br_p c_34 rfl))) dX4_cannotBuy_43
      refine lv_bipush (v := (-5)) hx hb dX4_cannotBuy_37 (by decide) ?_
      refine lv_goto (tgt := 43) hx hb dX4_cannotBuy_39 (by decide) ?_
      exact fin_i hx hb hr hlk (br_n c_5 (br_n c_18 (br_n c_34 rfl))) dX4_cannotBuy_43
    refine lv_bipush (v := (-3)) hx hb dX4_cannotBuy_21 (by decide) ?_
    exact fin_i hx hb hr hlk (br_n c_5 (br_p c_18 rfl)) dX4_cannotBuy_23
  refine lv_bipush (v := (-2)) hx hb dX4_cannotBuy_8 (by decide) ?_
  exact fin_i hx hb hr hlk (br_p c_5 rfl) dX4_cannotBuy_10
theorem kV_X4_cannotBuy {R : Room} {s : State} {args : Array Value} {own : String} {idx : Nat} {c0 : Cond} (hts : ∀ w ∈ c0 :: W0, w.before args s = true) (hl : Cond.methodLink own idx yX4_cannotBuy ∈ W0) (hR : rm_X4_cannotBuy.frames + 1 ≤ R.frames ∧ 8 + (3 + 11) + rm_X4_cannotBuy.locals ≤ R.locals) : CallW R s args own RX4 idx yX4_cannotBuy cX4_cannotBuy 3 (some .int) (Cond.code yX4_cannotBuy cX4_cannotBuy 3 (some .int) :: W0) rm_X4_cannotBuy 0 0 2 := cwV 2 hts (gdV hl mi_yX4_cannotBuy ms_yX4_cannotBuy mini_X4 mc_yX4_cannotBuy) rfl rfl rfl (by decide +kernel) hR

theorem cannotBuy_ok {μ : Nat → Nat → Int32} (hok : okM μ) {x y : Int32} (h : f_X4_cannotBuy μ x y = 0) : (tn x < mT μ ∧ x = nI (tn x)) ∧ (tn y ≤ 20 ∧ y = nI (tn y)) ∧ mN μ + tn y ≤ 60 := by
  unfold f_X4_cannotBuy at h
  split at h
  · exact absurd h (by decide)
  · split at h
    · exact absurd h (by decide)
    · split at h
      · rename_i h1 h2 h3
        have q1 := isTitle_okm hok h1
        have q2 := inN 20 h2 (by decide) rfl (by decide)
        exact ⟨q1, q2, cap_ok (okM_1 hok).1 q2.2 h3 (by have := okM_b hok; omega) (by omega)⟩
      · exact absurd h (by decide)

/-! X4.buys -/
def g_X4_buys_10 (μ : Nat → Nat → Int32) (t : Nat) (q : Nat) : Nat → (Nat) → (Nat → Nat → Int32) → (Nat → Nat → Int32)
  | 0, k, ω => ω
  | fu + 1, k, ω => (if q ≤ k then ω else g_X4_buys_10 μ t q fu (k + 1) (s_X4_comes ω (nI t) (f_X4_current ω t) 0))
def m_X4_buys (μ : Nat → Nat → Int32) (t : Nat) (q : Nat) : Int32 × (Nat → Nat → Int32) := (μ 0 1, (shU (g_X4_buys_10 μ t q (q + 1) 0 μ) 0 13 (((g_X4_buys_10 μ t q (q + 1) 0 μ) 0 13) + ((nI q) * (f_X4_price (g_X4_buys_10 μ t q (q + 1) 0 μ) t)))))
abbrev rm_X4_buys : Room := { frames := 2, cells := 0, slots := 0, locals := 47 }
set_option maxRecDepth 100000 in
theorem c_X4_buys (l : Launch) (D : va_G) (cI : ClassId) (o : Nat) (a : Nat → Nat) (μ : Nat → Nat → Int32) (hh : Int64) (x : Int32) (t : Nat) (hx : x = nI t) (y : Int32) (q : Nat) (hy : y = nI q) (hok : okM μ) (ht : t < 6) (hq : mN μ + q ≤ 60) :
    Met l yX4_buys (Cond.code yX4_buys cX4_buys 5 (some .int) :: W0) rm_X4_buys (va_Pc [.ref o, .int x, .int y] (moM D cI o a μ hh)) (moQ D cI o a hh (m_X4_buys μ t q)) 0 0 (moA o a) := by
  subst hx
  subst hy
  refine st_gen (cc := cX4_buys) (maxL := 5) (ret := some .int) (own := RX4) (by decide) rfl (Nat.le_of_ble_eq_true rfl) ?_
  intro p e s m below meth c ls C hPre hl
  obtain ⟨hx, hb, hr, hml, hown, hts, hlk⟩ := C
  obtain ⟨⟨hP, hK⟩, hD⟩ := hPre
  have hS : va_S (moA o a) s.heap s.heap [] := va_S.rf
  have hl : lv_has ls 5 [(0, .ref (o)), (1, .int (nI t)), (2, .int (nI q))] := hl
  obtain ⟨hT6, hC6, hN6, hS5⟩ := okM_b hok
  refine lv_aload_n hx hb dX4_buys_0 rfl (lv_at hl 0 rfl) ?_
  refine mo_g0 hx hb hts hown hK hP dX4_buys_1 ?_
  refine lv_iconst (v := 1) hx hb dX4_buys_4 (by decide) ?_
  refine mo_r0 hx hb hK hP (1) rfl (by omega) (v := μ 0 1) rfl dX4_buys_5 ?_
  refine lv_istore_n (lv' := [(3, .int (μ 0 1)), (0, .ref (o)), (1, .int (nI t)), (2, .int (nI q))]) hx hb dX4_buys_6 rfl hl (by decide) rfl (fun ls hl => ?_)
  refine lv_iconst (v := 0) hx hb dX4_buys_7 (by decide) ?_
  refine lv_istore (lv' := [(4, .int (0)), (3, .int (μ 0 1)), (0, .ref (o)), (1, .int (nI t)), (2, .int (nI q))]) hx hb dX4_buys_8 hl (by decide) rfl (fun ls hl => ?_)
  have K_33 : ∀ (H : Heap) (locs : List Loc), va_P D vwCl (moW cI o a (g_X4_buys_10 μ t q (q + 1) 0 μ) hh) H → va_S (moA o a) s.heap H locs → ∀ ls, lv_has ls 5 [(3, .int (μ 0 1)), (0, .ref (o)), (1, .int (nI t)), (2, .int (nI q))] → W p l e rm_X4_buys s m (([.ref (o), .int (nI t), .int (nI q)] : List Value).toArray) below meth c H locs 0 0 (MQ below (moQ D cI o a hh (m_X4_buys μ t q)) ([.ref (o), .int (nI t), .int (nI q)] : List Value).toArray s 0 0 (moA o a)) (F0 m 33 ls []) := by
    intro H locs hP hS ls hl
    refine lv_aload_n hx hb dX4_buys_33 rfl (lv_at hl 1 rfl) ?_
    refine mo_g0 hx hb hts hown hK hP dX4_buys_34 ?_
    refine lv_bipush (v := 13) hx hb dX4_buys_37 (by decide) ?_
    refine lv_dup2_11 hx hb dX4_buys_39 rfl rfl ?_
    refine mo_r0 hx hb hK hP (13) rfl (by omega) (v := (g_X4_buys_10 μ t q (q + 1) 0 μ) 0 13) rfl dX4_buys_40 ?_
    refine lv_iload_n hx hb dX4_buys_41 rfl (lv_at hl 3 rfl) ?_
    refine lv_aload_n hx hb dX4_buys_42 rfl (lv_at hl 1 rfl) ?_
    refine lv_iload_n hx hb dX4_buys_43 rfl (lv_at hl 2 rfl) ?_
    refine mo_call (rest := [.int (nI q), .int ((g_X4_buys_10 μ t q (q + 1) 0 μ) 0 13), .int (13), .ref (a 0)]) hx hb hml hown hts hK hP (c_X4_price l D cI o a (g_X4_buys_10 μ t q (q + 1) 0 μ) hh (nI t) t rfl (by first | with_reducible assumption | omega)) (kV_X4_price hts ml_X4_38 ⟨(Nat.le_of_ble_eq_true rfl), (Nat.le_of_ble_eq_true rfl)⟩) rfl hl.1 rfl (Nat.le_of_ble_eq_true rfl) dX4_buys_44 (Nat.zero_le _) (Nat.zero_le _) ?_
    refine lv_imul hx hb dX4_buys_47 ?_
    refine lv_iadd hx hb dX4_buys_48 ?_
    refine mo_w0 hx hb hK hP hD hS (13) rfl (by omega) dX4_buys_49 (fun H locs hP hS => ?_)
    refine lv_iload_n hx hb dX4_buys_50 rfl (lv_at hl 0 rfl) ?_
    exact mo_finM hx hb hr hlk hK hP hS rfl dX4_buys_51
  have L_10 : ∀ (fu : Nat) (k : Nat) (ω : Nat → Nat → Int32), q - k < fu → k ≤ q → ω 0 1 = nI (mN μ + k) → g_X4_buys_10 μ t q fu k ω = g_X4_buys_10 μ t q (q + 1) 0 μ → ∀ (H : Heap) (locs : List Loc), va_P D vwCl (moW cI o a ω hh) H → va_S (moA o a) s.heap H locs → ∀ ls, lv_has ls 5 [(3, .int (μ 0 1)), (0, .ref (o)), (1, .int (nI t)), (2, .int (nI q)), (4, .int (nI k))] → W p l e rm_X4_buys s m (([.ref (o), .int (nI t), .int (nI q)] : List Value).toArray) below meth c H locs 0 0 (MQ below (moQ D cI o a hh (m_X4_buys μ t q)) ([.ref (o), .int (nI t), .int (nI q)] : List Value).toArray s 0 0 (moA o a)) (F0 m 10 ls []) := by
    intro fu
    induction fu with
    | zero => intro k ω hm; exact absurd hm (Nat.not_lt_zero _)
    | succ fu ih =>
      intro k ω hm hkq hc hg_10 H locs hP hS ls hl
      refine lv_iload hx hb dX4_buys_10 (lv_at hl 4 rfl) ?_
      refine lv_iload_n hx hb dX4_buys_12 rfl (lv_at hl 3 rfl) ?_
      refine lv_icmp_geN (k) (q) hx hb rfl rfl (by omega) (by omega) (tgt := 33) dX4_buys_13 (by decide) (fun c_13 => ?_) (fun c_13 => ?_)
      · have ex : ω = g_X4_buys_10 μ t q (q + 1) 0 μ := ((br_p c_13 rfl) : ω = g_X4_buys_10 μ t q (fu + 1) k ω).trans hg_10
        exact K_33 _ _ (by rw [← ex]; exact hP) hS ls (lv_sub hl [0, 1, 2, 3] rfl)
      refine lv_aload_n hx hb dX4_buys_16 rfl (lv_at hl 1 rfl) ?_
      refine lv_iload_n hx hb dX4_buys_17 rfl (lv_at hl 2 rfl) ?_
      refine lv_aload_n hx hb dX4_buys_18 rfl (lv_at hl 1 rfl) ?_
      refine lv_iload_n hx hb dX4_buys_19 rfl (lv_at hl 2 rfl) ?_
      refine mo_call (rest := [.int (nI t), .ref (o)]) hx hb hml hown hts hK hP (c_X4_current l D cI o a ω hh (nI t) t rfl (by first | with_reducible assumption | omega)) (kV_X4_current hts ml_X4_42 ⟨(Nat.le_of_ble_eq_true rfl), (Nat.le_of_ble_eq_true rfl)⟩) rfl hl.1 rfl (Nat.le_of_ble_eq_true rfl) dX4_buys_20 (Nat.zero_le _) (Nat.zero_le _) ?_
      refine lv_iconst (v := 0) hx hb dX4_buys_23 (by decide) ?_
      refine mo_callV (rest := []) hx hb hml hown hts hK hP hD hS (c_X4_comes l D cI o a ω hh (nI t) (f_X4_current ω t) 0 (by first | exact (okM_1 (by with_reducible assumption)).1 | (rw [hc, tn_nI (by omega)])) (by first | (show mN _ < 60; omega) | (rw [hc, tn_nI (by omega)]; omega))) (kV_X4_comes hts ml_X4_119 ⟨(Nat.le_of_ble_eq_true rfl), (Nat.le_of_ble_eq_true rfl)⟩) rfl hl.1 rfl (Nat.le_of_ble_eq_true rfl) dX4_buys_24 (Nat.zero_le _) (Nat.zero_le _) (fun H locs hP hS => ?_)
      refine lv_iinc (v := nI (k + 1)) (lv' := [(4, .int (nI (k + 1))), (3, .int (μ 0 1)), (0, .ref (o)), (1, .int (nI t)), (2, .int (nI q))]) hx hb dX4_buys_27 hl (k := 4) rfl (nI_c1 _) (by decide) rfl (fun ls hl => ?_)
      refine lv_goto (tgt := 10) hx hb dX4_buys_30 (by decide) ?_
      exact ih (k + 1) (s_X4_comes ω (nI t) (f_X4_current ω t) 0) (by omega) (by omega) (by rw [comes_1, hc, nI_1, Nat.add_assoc]) (((br_n c_13 rfl) : g_X4_buys_10 μ t q fu (k + 1) (s_X4_comes ω (nI t) (f_X4_current ω t) 0) = g_X4_buys_10 μ t q (fu + 1) k ω).trans hg_10) _ _ hP hS ls (lv_sub hl [1, 2, 3, 4, 0] rfl)
  exact L_10 (q + 1) 0 μ (by omega) (by omega) ((okM_1 hok).1) rfl _ _ hP hS ls (lv_sub hl [1, 2, 3, 4, 0] rfl)
theorem kV_X4_buys {R : Room} {s : State} {args : Array Value} {own : String} {idx : Nat} {c0 : Cond} (hts : ∀ w ∈ c0 :: W0, w.before args s = true) (hl : Cond.methodLink own idx yX4_buys ∈ W0) (hR : rm_X4_buys.frames + 1 ≤ R.frames ∧ 8 + (5 + 11) + rm_X4_buys.locals ≤ R.locals) : CallW R s args own RX4 idx yX4_buys cX4_buys 5 (some .int) (Cond.code yX4_buys cX4_buys 5 (some .int) :: W0) rm_X4_buys 0 0 2 := cwV 2 hts (gdV hl mi_yX4_buys ms_yX4_buys mini_X4 mc_yX4_buys) rfl rfl rfl (by decide +kernel) hR

/-! X4.offered -/
def f_X4_offered (μ : Nat → Nat → Int32) (t : Nat) (y : Int32) (z : Int32) : Int32 := (if (f_X4_isOfUse μ (nI t) y) = 0 then 0 else (if (f_X4_supply μ (nI t)) < (f_X4_demand μ (nI t)) then ((f_X4_worth μ t y z) * 40) / 100 else (((f_X4_worth μ t y z) * 40) / 100) / 2))
abbrev rm_X4_offered : Room := { frames := 3, cells := 0, slots := 0, locals := 69 }
set_option maxRecDepth 100000 in
theorem c_X4_offered (l : Launch) (D : va_G) (cI : ClassId) (o : Nat) (a : Nat → Nat) (μ : Nat → Nat → Int32) (hh : Int64) (x : Int32) (t : Nat) (hx : x = nI t) (y : Int32) (z : Int32) (hok : okM μ) (ht : t < 6) :
    Met l yX4_offered (Cond.code yX4_offered cX4_offered 5 (some .int) :: W0) rm_X4_offered (va_Pc [.ref o, .int x, .int y, .int z] (moP D cI o a μ hh)) (vp_Si (fun r => r = f_X4_offered μ t y z)) 0 0 (fun _ => False) := by
  subst hx
  refine st_gen (cc := cX4_offered) (maxL := 5) (ret := some .int) (own := RX4) (by decide) rfl (Nat.le_of_ble_eq_true rfl) ?_
  intro p e s m below meth c ls C hPre hl
  obtain ⟨hx, hb, hr, hml, hown, hts, hlk⟩ := C
  obtain ⟨hP, hK⟩ := hPre
  have hl : lv_has ls 5 [(0, .ref (o)), (1, .int (nI t)), (2, .int (y)), (3, .int (z))] := hl
  obtain ⟨hT6, hC6, hN6, hS5⟩ := okM_b hok
  refine lv_aload_n hx hb dX4_offered_0 rfl (lv_at hl 0 rfl) ?_
  refine lv_iload_n hx hb dX4_offered_1 rfl (lv_at hl 1 rfl) ?_
  refine lv_iload_n hx hb dX4_offered_2 rfl (lv_at hl 2 rfl) ?_
  refine lv_iload_n hx hb dX4_offered_3 rfl (lv_at hl 3 rfl) ?_
  refine mo_call (rest := []) hx hb hml hown hts hK hP (c_X4_worth l D cI o a μ hh (nI t) t rfl y z (by first | with_reducible assumption | omega)) (kV_X4_worth hts ml_X4_48 ⟨(Nat.le_of_ble_eq_true rfl), (Nat.le_of_ble_eq_true rfl)⟩) rfl hl.1 rfl (Nat.le_of_ble_eq_true rfl) dX4_offered_4 (Nat.zero_le _) (Nat.zero_le _) ?_
  refine lv_bipush (v := 40) hx hb dX4_offered_7 (by decide) ?_
  refine lv_imul hx hb dX4_offered_9 ?_
  refine lv_bipush (v := 100) hx hb dX4_offered_10 (by decide) ?_
  refine lv_idiv hx hb dX4_offered_12 (by decide) ?_
  refine lv_istore (lv' := [(4, .int (((f_X4_worth μ t y z) * 40) / 100)), (0, .ref (o)), (1, .int (nI t)), (2, .int (y)), (3, .int (z))]) hx hb dX4_offered_13 hl (by decide) rfl (fun ls hl => ?_)
  refine lv_aload_n hx hb dX4_offered_15 rfl (lv_at hl 1 rfl) ?_
  refine lv_iload_n hx hb dX4_offered_16 rfl (lv_at hl 2 rfl) ?_
  refine lv_iload_n hx hb dX4_offered_17 rfl (lv_at hl 3 rfl) ?_
  refine mo_call (rest := []) hx hb hml hown hts hK hP (c_X4_isOfUse l D cI o a μ hh (nI t) y (by with_reducible assumption)) (kV_X4_isOfUse hts ml_X4_59 ⟨(Nat.le_of_ble_eq_true rfl), (Nat.le_of_ble_eq_true rfl)⟩) rfl hl.1 rfl (Nat.le_of_ble_eq_true rfl) dX4_offered_18 (Nat.zero_le _) (Nat.zero_le _) ?_
  refine lv_if_ne (tgt := 28) hx hb dX4_offered_21 (by decide) (fun c_21 => ?_) (fun c_21 => ?_)
  · refine lv_aload_n hx hb dX4_offered_28 rfl (lv_at hl 1 rfl) ?_
    refine lv_iload_n hx hb dX4_offered_29 rfl (lv_at hl 2 rfl) ?_
    refine mo_call (rest := []) hx hb hml hown hts hK hP (c_X4_supply l D cI o a μ hh (nI t) (by with_reducible assumption)) (kV_X4_supply hts ml_X4_84 ⟨(Nat.le_of_ble_eq_true rfl), (Nat.le_of_ble_eq_true rfl)⟩) rfl hl.1 rfl (Nat.le_of_ble_eq_true rfl) dX4_offered_30 (Nat.zero_le _) (Nat.zero_le _) ?_
    refine lv_aload_n hx hb dX4_offered_33 rfl (lv_at hl 1 rfl) ?_
    refine lv_iload_n hx hb dX4_offered_34 rfl (lv_at hl 2 rfl) ?_
    refine mo_call (rest := [.int ((f_X4_supply μ (nI t)))]) hx hb hml hown hts hK hP (c_X4_demand l D cI o a μ hh (nI t) (by with_reducible assumption)) (kV_X4_demand hts ml_X4_81 ⟨(Nat.le_of_ble_eq_true rfl), (Nat.le_of_ble_eq_true rfl)⟩) rfl hl.1 rfl (Nat.le_of_ble_eq_true rfl) dX4_offered_35 (Nat.zero_le _) (Nat.zero_le _) ?_
    refine lv_icmp_lt (tgt := 48) hx hb dX4_offered_38 (by decide) (fun c_38 => ?_) (fun c_38 => ?_)
    · refine lv_iload hx hb dX4_offered_48 (lv_at hl 0 rfl) ?_
      exact fin_i hx hb hr hlk (br_n c_21 (br_p c_38 rfl)) dX4_offered_50
    refine lv_iload hx hb dX4_offered_41 (lv_at hl 0 rfl) ?_
    refine lv_iconst (v := 2) hx hb dX4_offered_43 (by decide) ?_
    refine lv_idiv hx hb dX4_offered_44 (by decide) ?_
    refine lv_goto (tgt := 50) hx hb dX4_offered_45 (by decide) ?_
    exact fin_i hx hb hr hlk (br_n c_21 (br_n c_38 rfl)) dX4_offered_50
  refine lv_iconst (v := 0) hx hb dX4_offered_24 (by decide) ?_
  refine lv_goto (tgt := 50) hx hb dX4_offered_25 (by decide) ?_
  exact fin_i hx hb hr hlk (br_p c_21 rfl) dX4_offered_50
theorem kV_X4_offered {R : Room} {s : State} {args : Array Value} {own : String} {idx : Nat} {c0 : Cond} (hts : ∀ w ∈ c0 :: W0, w.before args s = true) (hl : Cond.methodLink own idx yX4_offered ∈ W0) (hR : rm_X4_offered.frames + 1 ≤ R.frames ∧ 8 + (5 + 11) + rm_X4_offered.locals ≤ R.locals) : CallW R s args own RX4 idx yX4_offered cX4_offered 5 (some .int) (Cond.code yX4_offered cX4_offered 5 (some .int) :: W0) rm_X4_offered 0 0 3 := cwV 3 hts (gdV hl mi_yX4_offered ms_yX4_offered mini_X4 mc_yX4_offered) rfl rfl rfl (by decide +kernel) hR

/-! X4.cannotOffer -/
def f_X4_cannotOffer (μ : Nat → Nat → Int32) (x : Int32) (y : Int32) (z : Int32) : Int32 := (if (f_X4_isTitle μ x) = 0 then (-2) else (if (f_X4_in y 1 30) = 0 then (-3) else (if (f_X4_in z 0 4) = 0 then (-3) else 0)))
abbrev rm_X4_cannotOffer : Room := { frames := 2, cells := 0, slots := 0, locals := 43 }
set_option maxRecDepth 100000 in
theorem c_X4_cannotOffer (l : Launch) (D : va_G) (cI : ClassId) (o : Nat) (a : Nat → Nat) (μ : Nat → Nat → Int32) (hh : Int64) (x : Int32) (y : Int32) (z : Int32) (hok : okM μ) :
    Met l yX4_cannotOffer (Cond.code yX4_cannotOffer cX4_cannotOffer 4 (some .int) :: W0) rm_X4_cannotOffer (va_Pc [.ref o, .int x, .int y, .int z] (moP D cI o a μ hh)) (vp_Si (fun r => r = f_X4_cannotOffer μ x y z)) 0 0 (fun _ => False) := by
  refine st_gen (cc := cX4_cannotOffer) (maxL := 4) (ret := some .int) (own := RX4) (by decide) rfl (Nat.le_of_ble_eq_true rfl) ?_
  intro p e s m below meth c ls C hPre hl
  obtain ⟨hx, hb, hr, hml, hown, hts, hlk⟩ := C
  obtain ⟨hP, hK⟩ := hPre
  have hl : lv_has ls 4 [(0, .ref (o)), (1, .int (x)), (2, .int (y)), (3, .int (z))] := hl
  obtain ⟨hT6, hC6, hN6, hS5⟩ := okM_b hok
  refine lv_aload_n hx hb dX4_cannotOffer_0 rfl (lv_at hl 0 rfl) ?_
  refine lv_iload_n hx hb dX4_cannotOffer_1 rfl (lv_at hl 1 rfl) ?_
  refine mo_call (rest := []) hx hb hml hown hts hK hP (c_X4_isTitle l D cI o a μ hh x) (kV_X4_isTitle hts ml_X4_65 ⟨(Nat.le_of_ble_eq_true rfl), (Nat.le_of_ble_eq_true rfl)⟩) rfl hl.1 rfl (Nat.le_of_ble_eq_true rfl) dX4_cannotOffer_2 (Nat.zero_le _) (Nat.zero_le _) ?_
  refine lv_if_ne (tgt := 11) hx hb dX4_cannotOffer_5 (by decide) (fun c_5 => ?_) (fun c_5 => ?_)
  · have v_5 := isTitle_okm (μ := μ) (by with_reducible assumption) c_5
    have vb_5 := v_5.1
    refine lv_iload_n hx hb dX4_cannotOffer_11 rfl (lv_at hl 2 rfl) ?_
    refine lv_iconst (v := 1) hx hb dX4_cannotOffer_12 (by decide) ?_
    refine lv_bipush (v := 30) hx hb dX4_cannotOffer_13 (by decide) ?_
    refine cl_S (rest := []) hx hb hml hown hts (c_X4_in l y 1 30) (kS_X4_in hts ml_X4_30 ⟨(Nat.le_of_ble_eq_true rfl), (Nat.le_of_ble_eq_true rfl)⟩) rfl hl.1 rfl (Nat.le_of_ble_eq_true rfl) dX4_cannotOffer_15 (Nat.zero_le _) (Nat.zero_le _) ?_
    refine lv_if_eq (tgt := 34) hx hb dX4_cannotOffer_18 (by decide) (fun c_18 => ?_) (fun c_18 => ?_)
    · refine lv_bipush (v := (-3)) hx hb dX4_cannotOffer_34 (by decide) ?_
      exact fin_i hx hb hr hlk (br_n c_5 (br_p c_18 rfl)) dX4_cannotOffer_36
    have v_18 := inN 30 c_18 (by decide) rfl (by decide)
    have vb_18 := v_18.1
    refine lv_iload_n hx hb dX4_cannotOffer_21 rfl (lv_at hl 3 rfl) ?_
    refine lv_iconst (v := 0) hx hb dX4_cannotOffer_22 (by decide) ?_
    refine lv_iconst (v := 4) hx hb dX4_cannotOffer_23 (by decide) ?_
    refine cl_S (rest := []) hx hb hml hown hts (c_X4_in l z 0 4) (kS_X4_in hts ml_X4_30 ⟨(Nat.le_of_ble_eq_true rfl), (Nat.le_of_ble_eq_true rfl)⟩) rfl hl.1 rfl (Nat.le_of_ble_eq_true rfl) dX4_cannotOffer_24 (Nat.zero_le _) (Nat.zero_le _) ?_
    refine lv_if_eq (tgt := 34) hx hb dX4_cannotOffer_27 (by decide) (fun c_27 => ?_) (fun c_27 => ?_)
    · refine lv_bipush (v := (-3)) hx hb dX4_cannotOffer_34 (by decide) ?_
      exact fin_i hx hb hr hlk (br_n c_5 (br_n c_18 (br_p c_27 rfl))) dX4_cannotOffer_36
    have v_27 := inN 4 c_27 (by decide) rfl (by decide)
    have vb_27 := v_27.1
    refine lv_iconst (v := 0) hx hb dX4_cannotOffer_30 (by decide) ?_
    refine lv_goto (tgt := 36) hx hb dX4_cannotOffer_31 (by decide) ?_
    exact fin_i hx hb hr hlk (br_n c_5 (br_n c_18 (br_n c_27 rfl))) dX4_cannotOffer_36
  refine lv_bipush (v := (-2)) hx hb dX4_cannotOffer_8 (by decide) ?_
  exact fin_i hx hb hr hlk (br_p c_5 rfl) dX4_cannotOffer_10
theorem kV_X4_cannotOffer {R : Room} {s : State} {args : Array Value} {own : String} {idx : Nat} {c0 : Cond} (hts : ∀ w ∈ c0 :: W0, w.before args s = true) (hl : Cond.methodLink own idx yX4_cannotOffer ∈ W0) (hR : rm_X4_cannotOffer.frames + 1 ≤ R.frames ∧ 8 + (4 + 11) + rm_X4_cannotOffer.locals ≤ R.locals) : CallW R s args own RX4 idx yX4_cannotOffer cX4_cannotOffer 4 (some .int) (Cond.code yX4_cannotOffer cX4_cannotOffer 4 (some .int) :: W0) rm_X4_cannotOffer 0 0 3 := cwV 3 hts (gdV hl mi_yX4_cannotOffer ms_yX4_cannotOffer mini_X4 mc_yX4_cannotOffer) rfl rfl rfl (by decide +kernel) hR

theorem cannotOffer_ok {μ : Nat → Nat → Int32} (hok : okM μ) {x y z : Int32} (h : f_X4_cannotOffer μ x y z = 0) : tn x < mT μ ∧ x = nI (tn x) := by
  unfold f_X4_cannotOffer at h
  split at h
  · exact absurd h (by decide)
  · rename_i h1; exact isTitle_okm hok h1

/-! X4.offer -/
def f_X4_offer (μ : Nat → Nat → Int32) (x : Int32) (y : Int32) (z : Int32) : Int32 := (if (f_X4_cannotOffer μ x y z) = 0 then (f_X4_offered μ (tn x) y z) else (f_X4_cannotOffer μ x y z))
abbrev rm_X4_offer : Room := { frames := 4, cells := 0, slots := 0, locals := 93 }
set_option maxRecDepth 100000 in
theorem c_X4_offer (l : Launch) (D : va_G) (cI : ClassId) (o : Nat) (a : Nat → Nat) (μ : Nat → Nat → Int32) (hh : Int64) (x : Int32) (y : Int32) (z : Int32) (hok : okM μ) :
    Met l yX4_offer (Cond.code yX4_offer cX4_offer 5 (some .int) :: W0) rm_X4_offer (va_Pc [.ref o, .int x, .int y, .int z] (moP D cI o a μ hh)) (vp_Si (fun r => r = f_X4_offer μ x y z)) 0 0 (fun _ => False) := by
  refine st_gen (cc := cX4_offer) (maxL := 5) (ret := some .int) (own := RX4) (by decide) rfl (Nat.le_of_ble_eq_true rfl) ?_
  intro p e s m below meth c ls C hPre hl
  obtain ⟨hx, hb, hr, hml, hown, hts, hlk⟩ := C
  obtain ⟨hP, hK⟩ := hPre
  have hl : lv_has ls 5 [(0, .ref (o)), (1, .int (x)), (2, .int (y)), (3, .int (z))] := hl
  obtain ⟨hT6, hC6, hN6, hS5⟩ := okM_b hok
  refine lv_aload_n hx hb dX4_offer_0 rfl (lv_at hl 0 rfl) ?_
  refine lv_iload_n hx hb dX4_offer_1 rfl (lv_at hl 1 rfl) ?_
  refine lv_iload_n hx hb dX4_offer_2 rfl (lv_at hl 2 rfl) ?_
  refine lv_iload_n hx hb dX4_offer_3 rfl (lv_at hl 3 rfl) ?_
  refine mo_call (rest := []) hx hb hml hown hts hK hP (c_X4_cannotOffer l D cI o a μ hh x y z (by with_reducible assumption)) (kV_X4_cannotOffer hts ml_X4_128 ⟨(Nat.le_of_ble_eq_true rfl), (Nat.le_of_ble_eq_true rfl)⟩) rfl hl.1 rfl (Nat.le_of_ble_eq_true rfl) dX4_offer_4 (Nat.zero_le _) (Nat.zero_le _) ?_
  refine lv_istore (lv' := [(4, .int ((f_X4_cannotOffer μ x y z))), (0, .ref (o)), (1, .int (x)), (2, .int (y)), (3, .int (z))]) hx hb dX4_offer_7 hl (by decide) rfl (fun ls hl => ?_)
  refine lv_iload hx hb dX4_offer_9 (lv_at hl 0 rfl) ?_
  refine lv_if_eq (tgt := 19) hx hb dX4_offer_11 (by decide) (fun c_11 => ?_) (fun c_11 => ?_)
  · have v := cannotOffer_ok hok c_11
    have vb := v.1
    refine lv_aload_n hx hb dX4_offer_19 rfl (lv_at hl 1 rfl) ?_
    refine lv_iload_n hx hb dX4_offer_20 rfl (lv_at hl 2 rfl) ?_
    refine lv_iload_n hx hb dX4_offer_21 rfl (lv_at hl 3 rfl) ?_
    refine lv_iload_n hx hb dX4_offer_22 rfl (lv_at hl 4 rfl) ?_
    refine mo_call (rest := []) hx hb hml hown hts hK hP (c_X4_offered l D cI o a μ hh x (tn x) v.2 y z (by with_reducible assumption) (by first | with_reducible assumption | omega)) (kV_X4_offered hts ml_X4_131 ⟨(Nat.le_of_ble_eq_true rfl), (Nat.le_of_ble_eq_true rfl)⟩) rfl hl.1 rfl (Nat.le_of_ble_eq_true rfl) dX4_offer_23 (Nat.zero_le _) (Nat.zero_le _) ?_
    exact fin_i hx hb hr hlk (br_p c_11 rfl) dX4_offer_26
  refine lv_iload hx hb dX4_offer_14 (lv_at hl 0 rfl) ?_
  refine lv_goto (tgt := 26) hx hb dX4_offer_16 (by decide) ?_
  exact fin_i hx hb hr hlk (br_n c_11 rfl) dX4_offer_26
theorem kV_X4_offer {R : Room} {s : State} {args : Array Value} {own : String} {idx : Nat} {c0 : Cond} (hts : ∀ w ∈ c0 :: W0, w.before args s = true) (hl : Cond.methodLink own idx yX4_offer ∈ W0) (hR : rm_X4_offer.frames + 1 ≤ R.frames ∧ 8 + (5 + 11) + rm_X4_offer.locals ≤ R.locals) : CallW R s args own RX4 idx yX4_offer cX4_offer 5 (some .int) (Cond.code yX4_offer cX4_offer 5 (some .int) :: W0) rm_X4_offer 0 0 3 := cwV 3 hts (gdV hl mi_yX4_offer ms_yX4_offer mini_X4 mc_yX4_offer) rfl rfl rfl (by decide +kernel) hR

/-! X4.cannotSell -/
def f_X4_cannotSell (μ : Nat → Nat → Int32) (x : Int32) : Int32 := (if (f_X4_isCopy μ x) = 0 then (-2) else (if (f_X4_is μ (tn x) 0) = 0 then (-4) else 0))
abbrev rm_X4_cannotSell : Room := { frames := 2, cells := 0, slots := 0, locals := 44 }
set_option maxRecDepth 100000 in
theorem c_X4_cannotSell (l : Launch) (D : va_G) (cI : ClassId) (o : Nat) (a : Nat → Nat) (μ : Nat → Nat → Int32) (hh : Int64) (x : Int32) (hok : okM μ) :
    Met l yX4_cannotSell (Cond.code yX4_cannotSell cX4_cannotSell 2 (some .int) :: W0) rm_X4_cannotSell (va_Pc [.ref o, .int x] (moP D cI o a μ hh)) (vp_Si (fun r => r = f_X4_cannotSell μ x)) 0 0 (fun _ => False) := by
  refine st_gen (cc := cX4_cannotSell) (maxL := 2) (ret := some .int) (own := RX4) (by decide) rfl (Nat.le_of_ble_eq_true rfl) ?_
  intro p e s m below meth c ls C hPre hl
  obtain ⟨hx, hb, hr, hml, hown, hts, hlk⟩ := C
  obtain ⟨hP, hK⟩ := hPre
  have hl : lv_has ls 2 [(0, .ref (o)), (1, .int (x))] := hl
  obtain ⟨hT6, hC6, hN6, hS5⟩ := okM_b hok
  refine lv_aload_n hx hb dX4_cannotSell_0 rfl (lv_at hl 0 rfl) ?_
  refine lv_iload_n hx hb dX4_cannotSell_1 rfl (lv_at hl 1 rfl) ?_
  refine mo_call (rest := []) hx hb hml hown hts hK hP (c_X4_isCopy l D cI o a μ hh x) (kV_X4_isCopy hts ml_X4_105 ⟨(Nat.le_of_ble_eq_true rfl), (Nat.le_of_ble_eq_true rfl)⟩) rfl hl.1 rfl (Nat.le_of_ble_eq_true rfl) dX4_cannotSell_2 (Nat.zero_le _) (Nat.zero_le _) ?_
  refine lv_if_ne (tgt := 13) hx hb dX4_cannotSell_5 (by decide) (fun c_5 => ?_) (fun c_5 => ?_)
  · have v_5 := isCopy_okm (μ := μ) (by with_reducible assumption) c_5
    have vb_5 := v_5.1
    refine lv_aload_n hx hb dX4_cannotSell_13 rfl (lv_at hl 0 rfl) ?_
    refine lv_iload_n hx hb dX4_cannotSell_14 rfl (lv_at hl 1 rfl) ?_
    refine lv_iconst (v := 0) hx hb dX4_cannotSell_15 (by decide) ?_
    refine mo_call (rest := []) hx hb hml hown hts hK hP (c_X4_is l D cI o a μ hh x (tn x) v_5.2 0 (by first | with_reducible assumption | omega)) (kV_X4_is hts ml_X4_55 ⟨(Nat.le_of_ble_eq_true rfl), (Nat.le_of_ble_eq_true rfl)⟩) rfl hl.1 rfl (Nat.le_of_ble_eq_true rfl) dX4_cannotSell_16 (Nat.zero_le _) (Nat.zero_le _) ?_
    refine lv_if_eq (tgt := 26) hx hb dX4_cannotSell_19 (by decide) (fun c_19 => ?_) (fun c_19 => ?_)
    · refine lv_bipush (v := (-4)) hx hb dX4_cannotSell_26 (by decide) ?_
      exact fin_i hx hb hr hlk (br_n c_5 (br_p c_19 rfl)) dX4_cannotSell_28
    refine lv_iconst (v := 0) hx hb dX4_cannotSell_22 (by decide) ?_
    refine lv_goto (tgt := 28) hx hb dX4_cannotSell_23 (by decide) ?_
    exact fin_i hx hb hr hlk (br_n c_5 (br_n c_19 rfl)) dX4_cannotSell_28
  refine lv_bipush (v := (-2)) hx hb dX4_cannotSell_8 (by decide) ?_
  refine lv_goto (tgt := 28) hx hb dX4_cannotSell_10 (by decide) ?_
  exact fin_i hx hb hr hlk (br_p c_5 rfl) dX4_cannotSell_28
theorem kV_X4_cannotSell {R : Room} {s : State} {args : Array Value} {own : String} {idx : Nat} {c0 : Cond} (hts : ∀ w ∈ c0 :: W0, w.before args s = true) (hl : Cond.methodLink own idx yX4_cannotSell ∈ W0) (hR : rm_X4_cannotSell.frames + 1 ≤ R.frames ∧ 8 + (2 + 11) + rm_X4_cannotSell.locals ≤ R.locals) : CallW R s args own RX4 idx yX4_cannotSell cX4_cannotSell 2 (some .int) (Cond.code yX4_cannotSell cX4_cannotSell 2 (some .int) :: W0) rm_X4_cannotSell 0 0 1 := cwV 1 hts (gdV hl mi_yX4_cannotSell ms_yX4_cannotSell mini_X4 mc_yX4_cannotSell) rfl rfl rfl (by decide +kernel) hR

theorem cannotSell_ok {μ : Nat → Nat → Int32} (hok : okM μ) {x : Int32} (h : f_X4_cannotSell μ x = 0) : tn x < mN μ ∧ x = nI (tn x) := by
  unfold f_X4_cannotSell at h
  split at h
  · exact absurd h (by decide)
  · rename_i h1; exact isCopy_okm hok h1

/-! X4.charges -/
def s_X4_charges (μ : Nat → Nat → Int32) (cu : Nat) (su : Nat) (z : Int32) : Nat → Nat → Int32 := (shU (shU μ 0 (8 + su) ((μ 0 (8 + su)) + z)) 0 (15 + cu) (((shU μ 0 (8 + su) ((μ 0 (8 + su)) + z)) 0 (15 + cu)) + z))
abbrev rm_X4_charges : Room := { frames := 0, cells := 0, slots := 0, locals := 0 }
set_option maxRecDepth 100000 in
theorem c_X4_charges (l : Launch) (D : va_G) (cI : ClassId) (o : Nat) (a : Nat → Nat) (μ : Nat → Nat → Int32) (hh : Int64) (x : Int32) (cu : Nat) (hx : x = nI cu) (y : Int32) (su : Nat) (hy : y = nI su) (z : Int32) (hcu : cu < 8) (hsu : su < 7) :
    Met l yX4_charges (Cond.code yX4_charges cX4_charges 4 (none) :: W0) rm_X4_charges (va_Pc [.ref o, .int x, .int y, .int z] (moM D cI o a μ hh)) (moV D cI o a hh (s_X4_charges μ cu su z)) 0 0 (moA o a) := by
  subst hx
  subst hy
  refine st_gen (cc := cX4_charges) (maxL := 4) (ret := none) (own := RX4) (by decide) rfl (Nat.le_of_ble_eq_true rfl) ?_
  intro p e s m below meth c ls C hPre hl
  obtain ⟨hx, hb, hr, hml, hown, hts, hlk⟩ := C
  obtain ⟨⟨hP, hK⟩, hD⟩ := hPre
  have hS : va_S (moA o a) s.heap s.heap [] := va_S.rf
  have hl : lv_has ls 4 [(0, .ref (o)), (1, .int (nI cu)), (2, .int (nI su)), (3, .int (z))] := hl
  refine lv_aload_n hx hb dX4_charges_0 rfl (lv_at hl 0 rfl) ?_
  refine mo_g0 hx hb hts hown hK hP dX4_charges_1 ?_
  refine lv_bipush (v := 8) hx hb dX4_charges_4 (by decide) ?_
  refine lv_iload_n hx hb dX4_charges_6 rfl (lv_at hl 2 rfl) ?_
  refine lv_iaddN (x := 8) (y := su) hx hb rfl rfl dX4_charges_7 ?_
  refine lv_dup2_11 hx hb dX4_charges_8 rfl rfl ?_
  refine mo_r0 hx hb hK hP ((8 + su)) rfl (by omega) (v := μ 0 (8 + su)) rfl dX4_charges_9 ?_
  refine lv_iload_n hx hb dX4_charges_10 rfl (lv_at hl 3 rfl) ?_
  refine lv_iadd hx hb dX4_charges_11 ?_
  refine mo_w0 hx hb hK hP hD hS ((8 + su)) rfl (by omega) dX4_charges_12 (fun H locs hP hS => ?_)
  refine lv_aload_n hx hb dX4_charges_13 rfl (lv_at hl 0 rfl) ?_
  refine mo_g0 hx hb hts hown hK hP dX4_charges_14 ?_
  refine lv_bipush (v := 15) hx hb dX4_charges_17 (by decide) ?_
  refine lv_iload_n hx hb dX4_charges_19 rfl (lv_at hl 1 rfl) ?_
  refine lv_iaddN (x := 15) (y := cu) hx hb rfl rfl dX4_charges_20 ?_
  refine lv_dup2_11 hx hb dX4_charges_21 rfl rfl ?_
  refine mo_r0 hx hb hK hP ((15 + cu)) rfl (by omega) (v := (shU μ 0 (8 + su) ((μ 0 (8 + su)) + z)) 0 (15 + cu)) rfl dX4_charges_22 ?_
  refine lv_iload_n hx hb dX4_charges_23 rfl (lv_at hl 3 rfl) ?_
  refine lv_iadd hx hb dX4_charges_24 ?_
  refine mo_w0 hx hb hK hP hD hS ((15 + cu)) rfl (by omega) dX4_charges_25 (fun H locs hP hS => ?_)
  exact mo_finV hx hb hr hlk hK hP hS rfl dX4_charges_26
theorem kV_X4_charges {R : Room} {s : State} {args : Array Value} {own : String} {idx : Nat} {c0 : Cond} (hts : ∀ w ∈ c0 :: W0, w.before args s = true) (hl : Cond.methodLink own idx yX4_charges ∈ W0) (hR : rm_X4_charges.frames + 1 ≤ R.frames ∧ 8 + (4 + 11) + rm_X4_charges.locals ≤ R.locals) : CallW R s args own RX4 idx yX4_charges cX4_charges 4 (none) (Cond.code yX4_charges cX4_charges 4 (none) :: W0) rm_X4_charges 0 0 3 := cwV 3 hts (gdV hl mi_yX4_charges ms_yX4_charges mini_X4 mc_yX4_charges) rfl rfl rfl (by decide +kernel) hR

theorem charges_at {μ : Nat → Nat → Int32} {cu su j : Nat} {v : Int32} (hc : cu < 8) (hs : su < 7) : s_X4_charges μ cu su v 0 j = if j = 15 + cu then μ 0 j + v else if j = 8 + su then μ 0 j + v else μ 0 j := by
  unfold s_X4_charges
  by_cases h1 : j = 15 + cu
  · subst h1; rw [if_pos rfl, shU_eq, shU_ne (by omega)]
  · rw [if_neg h1, shU_ne h1]
    by_cases h2 : j = 8 + su
    · subst h2; rw [if_pos rfl, shU_eq]
    · rw [if_neg h2, shU_ne h2]
theorem charges_f {μ : Nat → Nat → Int32} {cu su f : Nat} {v : Int32} (hf : f ≠ 0) : s_X4_charges μ cu su v f = μ f := by
  unfold s_X4_charges
  rw [shU_f hf, shU_f hf]
theorem charges_hi {μ : Nat → Nat → Int32} {cu su j : Nat} {v : Int32} (hc : cu < 8) (hs : su < 7) (hj : 23 ≤ j ∨ j < 8) : s_X4_charges μ cu su v 0 j = μ 0 j := by
  rw [charges_at hc hs, if_neg (by omega), if_neg (by omega)]
theorem charges_ok {μ : Nat → Nat → Int32} (hok : okM μ) {cu su : Nat} {v : Int32} (hc : cu < 8) (hs : su < 7) : okM (s_X4_charges μ cu su v) :=
  okM_of hok (charges_hi hc hs (by omega)) (charges_hi hc hs (by omega)) (charges_hi hc hs (by omega)) (charges_hi hc hs (by omega)) (by unfold mS; rw [charges_f (by decide)]; exact ⟨okM_s hok, (okM_b hok).2.2.2⟩) (fun k hk => charges_hi hc hs (by omega)) (fun k hk h => ⟨(charges_hi hc hs (by omega)).symm.trans h, charges_hi hc hs (by omega)⟩)
theorem charges_n {μ : Nat → Nat → Int32} {cu su : Nat} {v : Int32} (hc : cu < 8) (hs : su < 7) : mN (s_X4_charges μ cu su v) = mN μ := congrArg tn (charges_hi hc hs (by omega))
theorem goes_ok {μ : Nat → Nat → Int32} (hok : okM μ) {k0 : Nat} {v : Int32} (hv : v ≠ 1) : okM (s_X4_goes μ k0 v) := by
  refine okM_of hok (by rw [goes_at]; simp only [if_neg (show ¬ 0 = 53 + 6 * k0 + 5 by omega), if_neg (show ¬ 0 = 53 + 6 * k0 + 4 by omega), if_neg (show ¬ 0 = 53 + 6 * k0 + 3 by omega)]) (by rw [goes_at]; simp only [if_neg (show ¬ 1 = 53 + 6 * k0 + 5 by omega), if_neg (show ¬ 1 = 53 + 6 * k0 + 4 by omega), if_neg (show ¬ 1 = 53 + 6 * k0 + 3 by omega)]) (by rw [goes_at]; simp only [if_neg (show ¬ 2 = 53 + 6 * k0 + 5 by omega), if_neg (show ¬ 2 = 53 + 6 * k0 + 4 by omega), if_neg (show ¬ 2 = 53 + 6 * k0 + 3 by omega)]) (by rw [goes_at]; simp only [if_neg (show ¬ 6 = 53 + 6 * k0 + 5 by omega), if_neg (show ¬ 6 = 53 + 6 * k0 + 4 by omega), if_neg (show ¬ 6 = 53 + 6 * k0 + 3 by omega)]) (by unfold mS; rw [goes_f (by decide)]; exact ⟨okM_s hok, (okM_b hok).2.2.2⟩) (fun k hk => ?_) (fun k hk h => ?_)
  · rw [goes_at, if_neg (by omega), if_neg (by omega), if_neg (by omega)]
  · rw [goes_at] at h
    rw [if_neg (by omega), if_neg (by omega)] at h
    split at h
    · exact absurd h hv
    · exact ⟨h, by rw [goes_at, if_neg (by omega), if_neg (by omega), if_neg (by omega)]⟩
theorem goes_n {μ : Nat → Nat → Int32} {k0 : Nat} {v : Int32} : mN (s_X4_goes μ k0 v) = mN μ := by
  unfold mN
  rw [goes_at, if_neg (by omega), if_neg (by omega), if_neg (by omega)]
theorem day_ok {μ : Nat → Nat → Int32} (hok : okM μ) (v : Int32) : okM (shU μ 0 3 v) :=
  okM_of hok rfl rfl rfl rfl ⟨okM_s (μ := μ) hok, (okM_b hok).2.2.2⟩ (fun k hk => shU_ne (by omega)) (fun k hk h => ⟨by rw [← shU_ne (σ := μ) (f := 0) (k := 3) (x := v) (by omega)]; exact h, shU_ne (by omega)⟩)
theorem ed_ok {μ : Nat → Nat → Int32} (hok : okM μ) (v : Int32) {t : Nat} (ht : t < 6) : okM (shU μ 0 (23 + 2 * t + 1) v) :=
  okM_of hok (shU_ne (by omega)) (shU_ne (by omega)) (shU_ne (by omega)) (shU_ne (by omega)) ⟨okM_s (μ := μ) hok, (okM_b hok).2.2.2⟩ (fun k hk => shU_ne (by omega)) (fun k hk h => ⟨by rw [← shU_ne (σ := μ) (f := 0) (k := 23 + 2 * t + 1) (x := v) (by omega)]; exact h, shU_ne (by omega)⟩)

/-! X4.sells -/
def m_X4_sells (μ : Nat → Nat → Int32) (k : Nat) : Int32 × (Nat → Nat → Int32) := ((f_X4_copyNow μ k 8), (shU (s_X4_goes μ k 2) 0 12 (((s_X4_goes μ k 2) 0 12) + (f_X4_copyNow μ k 8))))
abbrev rm_X4_sells : Room := { frames := 4, cells := 0, slots := 0, locals := 89 }
set_option maxRecDepth 100000 in
theorem c_X4_sells (l : Launch) (D : va_G) (cI : ClassId) (o : Nat) (a : Nat → Nat) (μ : Nat → Nat → Int32) (hh : Int64) (x : Int32) (k : Nat) (hx : x = nI k) (hok : okM μ) (hk : k < mN μ) :
    Met l yX4_sells (Cond.code yX4_sells cX4_sells 3 (some .int) :: W0) rm_X4_sells (va_Pc [.ref o, .int x] (moM D cI o a μ hh)) (moQ D cI o a hh (m_X4_sells μ k)) 0 0 (moA o a) := by
  subst hx
  refine st_gen (cc := cX4_sells) (maxL := 3) (ret := some .int) (own := RX4) (by decide) rfl (Nat.le_of_ble_eq_true rfl) ?_
  intro p e s m below meth c ls C hPre hl
  obtain ⟨hx, hb, hr, hml, hown, hts, hlk⟩ := C
  obtain ⟨⟨hP, hK⟩, hD⟩ := hPre
  have hS : va_S (moA o a) s.heap s.heap [] := va_S.rf
  have hl : lv_has ls 3 [(0, .ref (o)), (1, .int (nI k))] := hl
  obtain ⟨hT6, hC6, hN6, hS5⟩ := okM_b hok
  refine lv_aload_n hx hb dX4_sells_0 rfl (lv_at hl 0 rfl) ?_
  refine lv_iload_n hx hb dX4_sells_1 rfl (lv_at hl 1 rfl) ?_
  refine lv_bipush (v := 8) hx hb dX4_sells_2 (by decide) ?_
  refine mo_call (rest := []) hx hb hml hown hts hK hP (c_X4_copyNow l D cI o a μ hh (nI k) k rfl 8 8 rfl (by with_reducible assumption) (by first | with_reducible assumption | omega) (by first | with_reducible assumption | omega)) (kV_X4_copyNow hts ml_X4_108 ⟨(Nat.le_of_ble_eq_true rfl), (Nat.le_of_ble_eq_true rfl)⟩) rfl hl.1 rfl (Nat.le_of_ble_eq_true rfl) dX4_sells_4 (Nat.zero_le _) (Nat.zero_le _) ?_
  refine lv_istore_n (lv' := [(2, .int ((f_X4_copyNow μ k 8))), (0, .ref (o)), (1, .int (nI k))]) hx hb dX4_sells_7 rfl hl (by decide) rfl (fun ls hl => ?_)
  refine lv_aload_n hx hb dX4_sells_8 rfl (lv_at hl 1 rfl) ?_
  refine lv_iload_n hx hb dX4_sells_9 rfl (lv_at hl 2 rfl) ?_
  refine lv_iconst (v := 2) hx hb dX4_sells_10 (by decide) ?_
  refine mo_callV (rest := []) hx hb hml hown hts hK hP hD hS (c_X4_goes l D cI o a μ hh (nI k) k rfl 2 (by first | with_reducible assumption | omega)) (kV_X4_goes hts ml_X4_134 ⟨(Nat.le_of_ble_eq_true rfl), (Nat.le_of_ble_eq_true rfl)⟩) rfl hl.1 rfl (Nat.le_of_ble_eq_true rfl) dX4_sells_11 (Nat.zero_le _) (Nat.zero_le _) (fun H locs hP hS => ?_)
  refine lv_aload_n hx hb dX4_sells_14 rfl (lv_at hl 1 rfl) ?_
  refine mo_g0 hx hb hts hown hK hP dX4_sells_15 ?_
  refine lv_bipush (v := 12) hx hb dX4_sells_18 (by decide) ?_
  refine lv_dup2_11 hx hb dX4_sells_20 rfl rfl ?_
  refine mo_r0 hx hb hK hP (12) rfl (by omega) (v := (s_X4_goes μ k 2) 0 12) rfl dX4_sells_21 ?_
  refine lv_iload_n hx hb dX4_sells_22 rfl (lv_at hl 0 rfl) ?_
  refine lv_iadd hx hb dX4_sells_23 ?_
  refine mo_w0 hx hb hK hP hD hS (12) rfl (by omega) dX4_sells_24 (fun H locs hP hS => ?_)
  refine lv_iload_n hx hb dX4_sells_25 rfl (lv_at hl 0 rfl) ?_
  exact mo_finM hx hb hr hlk hK hP hS rfl dX4_sells_26
theorem kV_X4_sells {R : Room} {s : State} {args : Array Value} {own : String} {idx : Nat} {c0 : Cond} (hts : ∀ w ∈ c0 :: W0, w.before args s = true) (hl : Cond.methodLink own idx yX4_sells ∈ W0) (hR : rm_X4_sells.frames + 1 ≤ R.frames ∧ 8 + (3 + 11) + rm_X4_sells.locals ≤ R.locals) : CallW R s args own RX4 idx yX4_sells cX4_sells 3 (some .int) (Cond.code yX4_sells cX4_sells 3 (some .int) :: W0) rm_X4_sells 0 0 1 := cwV 1 hts (gdV hl mi_yX4_sells ms_yX4_sells mini_X4 mc_yX4_sells) rfl rfl rfl (by decide +kernel) hR

/-! X4.nextOf -/
def g_X4_nextOf_4 (μ : Nat → Nat → Int32) (jc : Nat) : Nat → (Nat) → (Int32) → Int32
  | 0, k, x2 => x2
  | fu + 1, k, x2 => (if mN μ ≤ k then x2 else (if (f_X4_takes μ jc k) = 0 then g_X4_nextOf_4 μ jc fu (k + 1) x2 else (if x2 = (-1) then g_X4_nextOf_4 μ jc fu (k + 1) (nI k) else (if (f_X4_of μ (tn x2) 2) < (f_X4_of μ k 2) then g_X4_nextOf_4 μ jc fu (k + 1) (nI k) else (if (f_X4_of μ k 2) = (f_X4_of μ (tn x2) 2) then (if (f_X4_of μ (tn x2) 1) ≤ (f_X4_of μ k 1) then g_X4_nextOf_4 μ jc fu (k + 1) x2 else g_X4_nextOf_4 μ jc fu (k + 1) (nI k)) else g_X4_nextOf_4 μ jc fu (k + 1) x2)))))
def f_X4_nextOf (μ : Nat → Nat → Int32) (jc : Nat) : Int32 := (g_X4_nextOf_4 μ jc (mN μ + 1) 0 (-1))
abbrev rm_X4_nextOf : Room := { frames := 3, cells := 0, slots := 0, locals := 66 }
set_option maxRecDepth 100000 in
theorem c_X4_nextOf (l : Launch) (D : va_G) (cI : ClassId) (o : Nat) (a : Nat → Nat) (μ : Nat → Nat → Int32) (hh : Int64) (x : Int32) (jc : Nat) (hx : x = nI jc) (hok : okM μ) (hjc : jc < mC μ) :
    Met l yX4_nextOf (Cond.code yX4_nextOf cX4_nextOf 5 (some .int) :: W0) rm_X4_nextOf (va_Pc [.ref o, .int x] (moP D cI o a μ hh)) (vp_Si (fun r => r = f_X4_nextOf μ jc)) 0 0 (fun _ => False) := by
  subst hx
  refine st_gen (cc := cX4_nextOf) (maxL := 5) (ret := some .int) (own := RX4) (by decide) rfl (Nat.le_of_ble_eq_true rfl) ?_
  intro p e s m below meth c ls C hPre hl
  obtain ⟨hx, hb, hr, hml, hown, hts, hlk⟩ := C
  obtain ⟨hP, hK⟩ := hPre
  have hl : lv_has ls 5 [(0, .ref (o)), (1, .int (nI jc))] := hl
  obtain ⟨hT6, hC6, hN6, hS5⟩ := okM_b hok
  refine lv_iconst (v := (-1)) hx hb dX4_nextOf_0 (by decide) ?_
  refine lv_istore_n (lv' := [(2, .int ((-1))), (0, .ref (o)), (1, .int (nI jc))]) hx hb dX4_nextOf_1 rfl hl (by decide) rfl (fun ls hl => ?_)
  refine lv_iconst (v := 0) hx hb dX4_nextOf_2 (by decide) ?_
  refine lv_istore_n (lv' := [(3, .int (0)), (2, .int ((-1))), (0, .ref (o)), (1, .int (nI jc))]) hx hb dX4_nextOf_3 rfl hl (by decide) rfl (fun ls hl => ?_)
  have K_97 : ∀ ls, lv_has ls 5 [(0, .ref (o)), (1, .int (nI jc)), (2, .int ((g_X4_nextOf_4 μ jc (mN μ + 1) 0 (-1))))] → W p l e rm_X4_nextOf s m (([.ref (o), .int (nI jc)] : List Value).toArray) below meth c s.heap [] 0 0 (MQ below (vp_Si (fun r => r = f_X4_nextOf μ jc)) ([.ref (o), .int (nI jc)] : List Value).toArray s 0 0 (fun _ => False)) (F0 m 97 ls []) := by
    intro ls hl
    refine lv_iload_n hx hb dX4_nextOf_97 rfl (lv_at hl 2 rfl) ?_
    exact fin_i hx hb hr hlk rfl dX4_nextOf_98
  have L_4 : ∀ (fu : Nat) (k : Nat) (x2 : Int32), mN μ - k < fu → k ≤ mN μ → x2 = (-1) ∨ (tn x2 < mN μ ∧ x2 = nI (tn x2)) → g_X4_nextOf_4 μ jc fu k x2 = g_X4_nextOf_4 μ jc (mN μ + 1) 0 (-1) → ∀ ls, lv_has ls 5 [(0, .ref (o)), (1, .int (nI jc)), (3, .int (nI k)), (2, .int (x2))] → W p l e rm_X4_nextOf s m (([.ref (o), .int (nI jc)] : List Value).toArray) below meth c s.heap [] 0 0 (MQ below (vp_Si (fun r => r = f_X4_nextOf μ jc)) ([.ref (o), .int (nI jc)] : List Value).toArray s 0 0 (fun _ => False)) (F0 m 4 ls []) := by
    intro fu
    induction fu with
    | zero => intro k x2 hm; exact absurd hm (Nat.not_lt_zero _)
    | succ fu ih =>
      intro k x2 hm hkN hbs hg_4 ls hl
      refine lv_iload_n hx hb dX4_nextOf_4 rfl (lv_at hl 2 rfl) ?_
      refine lv_aload_n hx hb dX4_nextOf_5 rfl (lv_at hl 0 rfl) ?_
      refine mo_g0 hx hb hts hown hK hP dX4_nextOf_6 ?_
      refine lv_iconst (v := 1) hx hb dX4_nextOf_9 (by decide) ?_
      refine mo_r0 hx hb hK hP (1) rfl (by omega) (v := μ 0 1) rfl dX4_nextOf_10 ?_
      refine lv_icmp_geN (k) (mN μ) hx hb rfl (show okN μ by first | with_reducible assumption | exact okM_1 (by with_reducible assumption)).1 (by omega) (by omega) (tgt := 97) dX4_nextOf_11 (by decide) (fun c_11 => ?_) (fun c_11 => ?_)
      · have ex : x2 = g_X4_nextOf_4 μ jc (mN μ + 1) 0 (-1) := ((br_p c_11 rfl) : x2 = g_X4_nextOf_4 μ jc (fu + 1) k x2).trans hg_4
        exact K_97 ls (by rw [← ex]; exact lv_sub hl [0, 1, 3] rfl)
      refine lv_aload_n hx hb dX4_nextOf_14 rfl (lv_at hl 0 rfl) ?_
      refine lv_iload_n hx hb dX4_nextOf_15 rfl (lv_at hl 1 rfl) ?_
      refine lv_iload_n hx hb dX4_nextOf_16 rfl (lv_at hl 2 rfl) ?_
      refine mo_call (rest := []) hx hb hml hown hts hK hP (c_X4_takes l D cI o a μ hh (nI jc) jc rfl (nI k) k rfl (by first | with_reducible assumption | omega) (by first | with_reducible assumption | omega)) (kV_X4_takes hts ml_X4_93 ⟨(Nat.le_of_ble_eq_true rfl), (Nat.le_of_ble_eq_true rfl)⟩) rfl hl.1 rfl (Nat.le_of_ble_eq_true rfl) dX4_nextOf_17 (Nat.zero_le _) (Nat.zero_le _) ?_
      refine lv_if_eq (tgt := 91) hx hb dX4_nextOf_20 (by decide) (fun c_20 => ?_) (fun c_20 => ?_)
      · refine lv_iinc (v := nI (k + 1)) (lv' := [(3, .int (nI (k + 1))), (0, .ref (o)), (1, .int (nI jc)), (2, .int (x2))]) hx hb dX4_nextOf_91 hl (k := 2) rfl (nI_c1 _) (by decide) rfl (fun ls hl => ?_)
        refine lv_goto (tgt := 4) hx hb dX4_nextOf_94 (by decide) ?_
        exact ih (k + 1) x2 (by omega) (by omega) (by first | exact hbs | exact Or.inr (best_ok (by omega) (by omega))) (((br_n c_11 (br_p c_20 rfl)) : g_X4_nextOf_4 μ jc fu (k + 1) x2 = g_X4_nextOf_4 μ jc (fu + 1) k x2).trans hg_4) ls (lv_sub hl [1, 2, 0, 3] rfl)
      refine lv_iload_n hx hb dX4_nextOf_23 rfl (lv_at hl 3 rfl) ?_
      refine lv_iconst (v := (-1)) hx hb dX4_nextOf_24 (by decide) ?_
      refine lv_icmp_eq (tgt := 73) hx hb dX4_nextOf_25 (by decide) (fun c_25 => ?_) (fun c_25 => ?_)
      · refine lv_iconst (v := 1) hx hb dX4_nextOf_73 (by decide) ?_
        refine lv_goto (tgt := 78) hx hb dX4_nextOf_74 (by decide) ?_
        refine lv_istore (lv' := [(4, .int (1)), (0, .ref (o)), (1, .int (nI jc)), (3, .int (nI k)), (2, .int (x2))]) hx hb dX4_nextOf_78 hl (by decide) rfl (fun ls hl => ?_)
        refine lv_iload hx hb dX4_nextOf_80 (lv_at hl 0 rfl) ?_
        refine lv_if_eq (tgt := 89) hx hb dX4_nextOf_82 (by decide) (fun q => absurd q (by decide)) (fun _ => ?_)
        refine lv_iload_n hx hb dX4_nextOf_85 rfl (lv_at hl 3 rfl) ?_
        refine lv_goto (tgt := 90) hx hb dX4_nextOf_86 (by decide) ?_
        refine lv_istore_n (lv' := [(2, .int (nI k)), (4, .int (1)), (0, .ref (o)), (1, .int (nI jc)), (3, .int (nI k))]) hx hb dX4_nextOf_90 rfl hl (by decide) rfl (fun ls hl => ?_)
        refine lv_iinc (v := nI (k + 1)) (lv' := [(3, .int (nI (k + 1))), (2, .int (nI k)), (4, .int (1)), (0, .ref (o)), (1, .int (nI jc))]) hx hb dX4_nextOf_91 hl (k := 4) rfl (nI_c1 _) (by decide) rfl (fun ls hl => ?_)
        refine lv_goto (tgt := 4) hx hb dX4_nextOf_94 (by decide) ?_
        exact ih (k + 1) (nI k) (by omega) (by omega) (by first | exact hbs | exact Or.inr (best_ok (by omega) (by omega))) (((br_n c_11 (br_n c_20 (br_p c_25 rfl))) : g_X4_nextOf_4 μ jc fu (k + 1) (nI k) = g_X4_nextOf_4 μ jc (fu + 1) k x2).trans hg_4) ls (lv_sub hl [3, 4, 0, 1] rfl)
      have hb2 := hbs.resolve_left c_25
      have hb3 := hb2.1
      refine lv_aload_n hx hb dX4_nextOf_28 rfl (lv_at hl 0 rfl) ?_
      refine lv_iload_n hx hb dX4_nextOf_29 rfl (lv_at hl 2 rfl) ?_
      refine lv_iconst (v := 2) hx hb dX4_nextOf_30 (by decide) ?_
      refine mo_call (rest := []) hx hb hml hown hts hK hP (c_X4_of l D cI o a μ hh (nI k) k rfl 2 2 rfl (by first | with_reducible assumption | omega)) (kV_X4_of hts ml_X4_34 ⟨(Nat.le_of_ble_eq_true rfl), (Nat.le_of_ble_eq_true rfl)⟩) rfl hl.1 rfl (Nat.le_of_ble_eq_true rfl) dX4_nextOf_31 (Nat.zero_le _) (Nat.zero_le _) ?_
      refine lv_aload_n hx hb dX4_nextOf_34 rfl (lv_at hl 0 rfl) ?_
      refine lv_iload_n hx hb dX4_nextOf_35 rfl (lv_at hl 3 rfl) ?_
      refine lv_iconst (v := 2) hx hb dX4_nextOf_36 (by decide) ?_
      refine mo_call (rest := [.int ((f_X4_of μ k 2))]) hx hb hml hown hts hK hP (c_X4_of l D cI o a μ hh x2 (tn x2) hb2.2 2 2 rfl (by first | with_reducible assumption | omega)) (kV_X4_of hts ml_X4_34 ⟨(Nat.le_of_ble_eq_true rfl), (Nat.le_of_ble_eq_true rfl)⟩) rfl hl.1 rfl (Nat.le_of_ble_eq_true rfl) dX4_nextOf_37 (Nat.zero_le _) (Nat.zero_le _) ?_
      refine lv_icmp_gt (tgt := 73) hx hb dX4_nextOf_40 (by decide) (fun c_40 => ?_) (fun c_40 => ?_)
      · refine lv_iconst (v := 1) hx hb dX4_nextOf_73 (by decide) ?_
        refine lv_goto (tgt := 78) hx hb dX4_nextOf_74 (by decide) ?_
        refine lv_istore (lv' := [(4, .int (1)), (0, .ref (o)), (1, .int (nI jc)), (3, .int (nI k)), (2, .int (x2))]) hx hb dX4_nextOf_78 hl (by decide) rfl (fun ls hl => ?_)
        refine lv_iload hx hb dX4_nextOf_80 (lv_at hl 0 rfl) ?_
        refine lv_if_eq (tgt := 89) hx hb dX4_nextOf_82 (by decide) (fun q => absurd q (by decide)) (fun _ => ?_)
        refine lv_iload_n hx hb dX4_nextOf_85 rfl (lv_at hl 3 rfl) ?_
        refine lv_goto (tgt := 90) hx hb dX4_nextOf_86 (by decide) ?_
        refine lv_istore_n (lv' := [(2, .int (nI k)), (4, .int (1)), (0, .ref (o)), (1, .int (nI jc)), (3, .int (nI k))]) hx hb dX4_nextOf_90 rfl hl (by decide) rfl (fun ls hl => ?_)
        refine lv_iinc (v := nI (k + 1)) (lv' := [(3, .int (nI (k + 1))), (2, .int (nI k)), (4, .int (1)), (0, .ref (o)), (1, .int (nI jc))]) hx hb dX4_nextOf_91 hl (k := 4) rfl (nI_c1 _) (by decide) rfl (fun ls hl => ?_)
        refine lv_goto (tgt := 4) hx hb dX4_nextOf_94 (by decide) ?_
        exact ih (k + 1) (nI k) (by omega) (by omega) (by first | exact hbs | exact Or.inr (best_ok (by omega) (by omega))) (((br_n c_11 (br_n c_20 (br_n c_25 (br_p c_40 rfl)))) : g_X4_nextOf_4 μ jc fu (k + 1) (nI k) = g_X4_nextOf_4 μ jc (fu + 1) k x2).trans hg_4) ls (lv_sub hl [3, 4, 0, 1] rfl)
      refine lv_aload_n hx hb dX4_nextOf_43 rfl (lv_at hl 0 rfl) ?_
      refine lv_iload_n hx hb dX4_nextOf_44 rfl (lv_at hl 2 rfl) ?_
      refine lv_iconst (v := 2) hx hb dX4_nextOf_45 (by decide) ?_
      refine mo_call (rest := []) hx hb hml hown hts hK hP (c_X4_of l D cI o a μ hh (nI k) k rfl 2 2 rfl (by first | with_reducible assumption | omega)) (kV_X4_of hts ml_X4_34 ⟨(Nat.le_of_ble_eq_true rfl), (Nat.le_of_ble_eq_true rfl)⟩) rfl hl.1 rfl (Nat.le_of_ble_eq_true rfl) dX4_nextOf_46 (Nat.zero_le _) (Nat.zero_le _) ?_
      refine lv_aload_n hx hb dX4_nextOf_49 rfl (lv_at hl 0 rfl) ?_
      refine lv_iload_n hx hb dX4_nextOf_50 rfl (lv_at hl 3 rfl) ?_
      refine lv_iconst (v := 2) hx hb dX4_nextOf_51 (by decide) ?_
      refine mo_call (rest := [.int ((f_X4_of μ k 2))]) hx hb hml hown hts hK hP (c_X4_of l D cI o a μ hh x2 (tn x2) hb2.2 2 2 rfl (by first | with_reducible assumption | omega)) (kV_X4_of hts ml_X4_34 ⟨(Nat.le_of_ble_eq_true rfl), (Nat.le_of_ble_eq_true rfl)⟩) rfl hl.1 rfl (Nat.le_of_ble_eq_true rfl) dX4_nextOf_52 (Nat.zero_le _) (Nat.zero_le _) ?_
      refine lv_icmp_ne (tgt := 77) hx hb dX4_nextOf_55 (by decide) (fun c_55 => ?_) (fun c_55 => ?_)
      · refine lv_iconst (v := 0) hx hb dX4_nextOf_77 (by decide) ?_
        refine lv_istore (lv' := [(4, .int (0)), (0, .ref (o)), (1, .int (nI jc)), (3, .int (nI k)), (2, .int (x2))]) hx hb dX4_nextOf_78 hl (by decide) rfl (fun ls hl => ?_)
        refine lv_iload hx hb dX4_nextOf_80 (lv_at hl 0 rfl) ?_
        refine lv_if_eq (tgt := 89) hx hb dX4_nextOf_82 (by decide) (fun _ => ?_) (fun q => absurd rfl q)
        refine lv_iload_n hx hb dX4_nextOf_89 rfl (lv_at hl 4 rfl) ?_
        refine lv_istore_n (lv' := [(2, .int (x2)), (4, .int (0)), (0, .ref (o)), (1, .int (nI jc)), (3, .int (nI k))]) hx hb dX4_nextOf_90 rfl hl (by decide) rfl (fun ls hl => ?_)
        refine lv_iinc (v := nI (k + 1)) (lv' := [(3, .int (nI (k + 1))), (2, .int (x2)), (4, .int (0)), (0, .ref (o)), (1, .int (nI jc))]) hx hb dX4_nextOf_91 hl (k := 4) rfl (nI_c1 _) (by decide) rfl (fun ls hl => ?_)
        refine lv_goto (tgt := 4) hx hb dX4_nextOf_94 (by decide) ?_
        exact ih (k + 1) x2 (by omega) (by omega) (by first | exact hbs | exact Or.inr (best_ok (by omega) (by omega))) (((br_n c_11 (br_n c_20 (br_n c_25 (br_n c_40 (br_n c_55 rfl))))) : g_X4_nextOf_4 μ jc fu (k + 1) x2 = g_X4_nextOf_4 μ jc (fu + 1) k x2).trans hg_4) ls (lv_sub hl [3, 4, 0, 1] rfl)
      refine lv_aload_n hx hb dX4_nextOf_58 rfl (lv_at hl 0 rfl) ?_
      refine lv_iload_n hx hb dX4_nextOf_59 rfl (lv_at hl 2 rfl) ?_
      refine lv_iconst (v := 1) hx hb dX4_nextOf_60 (by decide) ?_
      refine mo_call (rest := []) hx hb hml hown hts hK hP (c_X4_of l D cI o a μ hh (nI k) k rfl 1 1 rfl (by first | with_reducible assumption | omega)) (kV_X4_of hts ml_X4_34 ⟨(Nat.le_of_ble_eq_true rfl), (Nat.le_of_ble_eq_true rfl)⟩) rfl hl.1 rfl (Nat.le_of_ble_eq_true rfl) dX4_nextOf_61 (Nat.zero_le _) (Nat.zero_le _) ?_
      refine lv_aload_n hx hb dX4_nextOf_64 rfl (lv_at hl 0 rfl) ?_
      refine lv_iload_n hx hb dX4_nextOf_65 rfl (lv_at hl 3 rfl) ?_
      refine lv_iconst (v := 1) hx hb dX4_nextOf_66 (by decide) ?_
      refine mo_call (rest := [.int ((f_X4_of μ k 1))]) hx hb hml hown hts hK hP (c_X4_of l D cI o a μ hh x2 (tn x2) hb2.2 1 1 rfl (by first | with_reducible assumption | omega)) (kV_X4_of hts ml_X4_34 ⟨(Nat.le_of_ble_eq_true rfl), (Nat.le_of_ble_eq_true rfl)⟩) rfl hl.1 rfl (Nat.le_of_ble_eq_true rfl) dX4_nextOf_67 (Nat.zero_le _) (Nat.zero_le _) ?_
      refine lv_icmp_ge (tgt := 77) hx hb dX4_nextOf_70 (by decide) (fun c_70 => ?_) (fun c_70 => ?_)
      · refine lv_iconst (v := 0) hx hb dX4_nextOf_77 (by decide) ?_
        refine lv_istore (lv' := [(4, .int (0)), (0, .ref (o)), (1, .int (nI jc)), (3, .int (nI k)), (2, .int (x2))]) hx hb dX4_nextOf_78 hl (by decide) rfl (fun ls hl => ?_)
        refine lv_iload hx hb dX4_nextOf_80 (lv_at hl 0 rfl) ?_
        refine lv_if_eq (tgt := 89) hx hb dX4_nextOf_82 (by decide) (fun _ => ?_) (fun q => absurd rfl q)
        refine lv_iload_n hx hb dX4_nextOf_89 rfl (lv_at hl 4 rfl) ?_
        refine lv_istore_n (lv' := [(2, .int (x2)), (4, .int (0)), (0, .ref (o)), (1, .int (nI jc)), (3, .int (nI k))]) hx hb dX4_nextOf_90 rfl hl (by decide) rfl (fun ls hl => ?_)
        refine lv_iinc (v := nI (k + 1)) (lv' := [(3, .int (nI (k + 1))), (2, .int (x2)), (4, .int (0)), (0, .ref (o)), (1, .int (nI jc))]) hx hb dX4_nextOf_91 hl (k := 4) rfl (nI_c1 _) (by decide) rfl (fun ls hl => ?_)
        refine lv_goto (tgt := 4) hx hb dX4_nextOf_94 (by decide) ?_
        exact ih (k + 1) x2 (by omega) (by omega) (by first | exact hbs | exact Or.inr (best_ok (by omega) (by omega))) (((br_n c_11 (br_n c_20 (br_n c_25 (br_n c_40 (br_p c_55 (br_p c_70 rfl)))))) : g_X4_nextOf_4 μ jc fu (k + 1) x2 = g_X4_nextOf_4 μ jc (fu + 1) k x2).trans hg_4) ls (lv_sub hl [3, 4, 0, 1] rfl)
      refine lv_iconst (v := 1) hx hb dX4_nextOf_73 (by decide) ?_
      refine lv_goto (tgt := 78) hx hb dX4_nextOf_74 (by decide) ?_
      refine lv_istore (lv' := [(4, .int (1)), (0, .ref (o)), (1, .int (nI jc)), (3, .int (nI k)), (2, .int (x2))]) hx hb dX4_nextOf_78 hl (by decide) rfl (fun ls hl => ?_)
      refine lv_iload hx hb dX4_nextOf_80 (lv_at hl 0 rfl) ?_
      refine lv_if_eq (tgt := 89) hx hb dX4_nextOf_82 (by decide) (fun q => absurd q (by decide)) (fun _ => ?_)
      refine lv_iload_n hx hb dX4_nextOf_85 rfl (lv_at hl 3 rfl) ?_
      refine lv_goto (tgt := 90) hx hb dX4_nextOf_86 (by decide) ?_
      refine lv_istore_n (lv' := [(2, .int (nI k)), (4, .int (1)), (0, .ref (o)), (1, .int (nI jc)), (3, .int (nI k))]) hx hb dX4_nextOf_90 rfl hl (by decide) rfl (fun ls hl => ?_)
      refine lv_iinc (v := nI (k + 1)) (lv' := [(3, .int (nI (k + 1))), (2, .int (nI k)), (4, .int (1)), (0, .ref (o)), (1, .int (nI jc))]) hx hb dX4_nextOf_91 hl (k := 4) rfl (nI_c1 _) (by decide) rfl (fun ls hl => ?_)
      refine lv_goto (tgt := 4) hx hb dX4_nextOf_94 (by decide) ?_
      exact ih (k + 1) (nI k) (by omega) (by omega) (by first | exact hbs | exact Or.inr (best_ok (by omega) (by omega))) (((br_n c_11 (br_n c_20 (br_n c_25 (br_n c_40 (br_p c_55 (br_n c_70 rfl)))))) : g_X4_nextOf_4 μ jc fu (k + 1) (nI k) = g_X4_nextOf_4 μ jc (fu + 1) k x2).trans hg_4) ls (lv_sub hl [3, 4, 0, 1] rfl)
  exact L_4 (mN μ + 1) 0 (-1) (by omega) (by omega) (Or.inl rfl) rfl ls (lv_sub hl [2, 3, 0, 1] rfl)
theorem kV_X4_nextOf {R : Room} {s : State} {args : Array Value} {own : String} {idx : Nat} {c0 : Cond} (hts : ∀ w ∈ c0 :: W0, w.before args s = true) (hl : Cond.methodLink own idx yX4_nextOf ∈ W0) (hR : rm_X4_nextOf.frames + 1 ≤ R.frames ∧ 8 + (5 + 11) + rm_X4_nextOf.locals ≤ R.locals) : CallW R s args own RX4 idx yX4_nextOf cX4_nextOf 5 (some .int) (Cond.code yX4_nextOf cX4_nextOf 5 (some .int) :: W0) rm_X4_nextOf 0 0 1 := cwV 1 hts (gdV hl mi_yX4_nextOf ms_yX4_nextOf mini_X4 mc_yX4_nextOf) rfl rfl rfl (by decide +kernel) hR

theorem nextOf_g {μ : Nat → Nat → Int32} {jc : Nat} (hN : mN μ ≤ 60) : ∀ (fu k : Nat) (b : Int32), (b = (-1) ∨ (tn b < mN μ ∧ b = nI (tn b))) → (g_X4_nextOf_4 μ jc fu k b = (-1) ∨ (tn (g_X4_nextOf_4 μ jc fu k b) < mN μ ∧ g_X4_nextOf_4 μ jc fu k b = nI (tn (g_X4_nextOf_4 μ jc fu k b)))) := by
  intro fu
  induction fu with
  | zero => intro k b h; exact h
  | succ fu ih =>
    intro k b h
    rw [g_X4_nextOf_4]
    (repeat' split) <;> first | exact h | exact ih _ _ h | exact ih _ _ (Or.inr (best_ok (by omega) hN))
theorem nextOf_ok {μ : Nat → Nat → Int32} (hok : okM μ) (jc : Nat) : f_X4_nextOf μ jc = (-1) ∨ (tn (f_X4_nextOf μ jc) < mN μ ∧ f_X4_nextOf μ jc = nI (tn (f_X4_nextOf μ jc))) :=
  nextOf_g (okM_b hok).2.2.1 (mN μ + 1) 0 (-1) (Or.inl rfl)

/-! X4.canRent -/
def g_X4_canRent_8 (μ : Nat → Nat → Int32) (x : Int32) (y : Int32) : Nat → (Nat) → (Int32) → (Int32) → Int32 × Int32
  | 0, k, x3, x4 => (x3, x4)
  | fu + 1, k, x3, x4 => (if mN μ ≤ k then (x3, x4) else (if (f_X4_is μ k 1) = 0 then g_X4_canRent_8 μ x y fu (k + 1) x3 x4 else (if (f_X4_of μ k 4) = x then (if x4 = 0 then (if (f_X4_of μ k 0) = y then g_X4_canRent_8 μ x y fu (k + 1) (x3 + 1) 1 else g_X4_canRent_8 μ x y fu (k + 1) (x3 + 1) 0) else g_X4_canRent_8 μ x y fu (k + 1) (x3 + 1) 1) else g_X4_canRent_8 μ x y fu (k + 1) x3 x4)))
def f_X4_canRent (μ : Nat → Nat → Int32) (x : Int32) (y : Int32) : Int32 := (if 4 ≤ ((g_X4_canRent_8 μ x y (mN μ + 1) 0 0 0).1) then 0 else (if ((g_X4_canRent_8 μ x y (mN μ + 1) 0 0 0).2) = 0 then 1 else 0))
abbrev rm_X4_canRent : Room := { frames := 2, cells := 0, slots := 0, locals := 44 }
set_option maxRecDepth 100000 in
theorem c_X4_canRent (l : Launch) (D : va_G) (cI : ClassId) (o : Nat) (a : Nat → Nat) (μ : Nat → Nat → Int32) (hh : Int64) (x : Int32) (y : Int32) (hok : okM μ) :
    Met l yX4_canRent (Cond.code yX4_canRent cX4_canRent 6 (some .boolean) :: W0) rm_X4_canRent (va_Pc [.ref o, .int x, .int y] (moP D cI o a μ hh)) (vp_Si (fun r => r = f_X4_canRent μ x y)) 0 0 (fun _ => False) := by
  refine st_gen (cc := cX4_canRent) (maxL := 6) (ret := some .boolean) (own := RX4) (by decide) rfl (Nat.le_of_ble_eq_true rfl) ?_
  intro p e s m below meth c ls C hPre hl
  obtain ⟨hx, hb, hr, hml, hown, hts, hlk⟩ := C
  obtain ⟨hP, hK⟩ := hPre
  have hl : lv_has ls 6 [(0, .ref (o)), (1, .int (x)), (2, .int (y))] := hl
  obtain ⟨hT6, hC6, hN6, hS5⟩ := okM_b hok
  refine lv_iconst (v := 0) hx hb dX4_canRent_0 (by decide) ?_
  refine lv_istore_n (lv' := [(3, .int (0)), (0, .ref (o)), (1, .int (x)), (2, .int (y))]) hx hb dX4_canRent_1 rfl hl (by decide) rfl (fun ls hl => ?_)
  refine lv_iconst (v := 0) hx hb dX4_canRent_2 (by decide) ?_
  refine lv_istore (lv' := [(4, .int (0)), (3, .int (0)), (0, .ref (o)), (1, .int (x)), (2, .int (y))]) hx hb dX4_canRent_3 hl (by decide) rfl (fun ls hl => ?_)
  refine lv_iconst (v := 0) hx hb dX4_canRent_5 (by decide) ?_
  refine lv_istore (lv' := [(5, .int (0)), (4, .int (0)), (3, .int (0)), (0, .ref (o)), (1, .int (x)), (2, .int (y))]) hx hb dX4_canRent_6 hl (by decide) rfl (fun ls hl => ?_)
  have K_72 : ∀ ls, lv_has ls 6 [(0, .ref (o)), (1, .int (x)), (2, .int (y)), (3, .int ((g_X4_canRent_8 μ x y (mN μ + 1) 0 0 0).1)), (4, .int ((g_X4_canRent_8 μ x y (mN μ + 1) 0 0 0).2))] → W p l e rm_X4_canRent s m (([.ref (o), .int (x), .int (y)] : List Value).toArray) below meth c s.heap [] 0 0 (MQ below (vp_Si (fun r => r = f_X4_canRent μ x y)) ([.ref (o), .int (x), .int (y)] : List Value).toArray s 0 0 (fun _ => False)) (F0 m 72 ls []) := by
    intro ls hl
    refine lv_iload_n hx hb dX4_canRent_72 rfl (lv_at hl 3 rfl) ?_
    refine lv_iconst (v := 4) hx hb dX4_canRent_73 (by decide) ?_
    refine lv_icmp_ge (tgt := 86) hx hb dX4_canRent_74 (by decide) (fun c_74 => ?_) (fun c_74 => ?_)
    · refine lv_iconst (v := 0) hx hb dX4_canRent_86 (by decide) ?_
      exact fin_z hx hb hr hlk (Or.inl rfl) (br_p c_74 rfl) dX4_canRent_87
    refine lv_iload hx hb dX4_canRent_77 (lv_at hl 4 rfl) ?_
    refine lv_if_ne (tgt := 86) hx hb dX4_canRent_79 (by decide) (fun c_79 => ?_) (fun c_79 => ?_)
    · refine lv_iconst (v := 0) hx hb dX4_canRent_86 (by decide) ?_
      exact fin_z hx hb hr hlk (Or.inl rfl) (br_n c_74 (br_n c_79 rfl)) dX4_canRent_87
    refine lv_iconst (v := 1) hx hb dX4_canRent_82 (by decide) ?_
    refine lv_goto (tgt := 87) hx hb dX4_canRent_83 (by decide) ?_
    exact fin_z hx hb hr hlk (Or.inr rfl) (br_n c_74 (br_p c_79 rfl)) dX4_canRent_87
  have L_8 : ∀ (fu : Nat) (k : Nat) (x3 : Int32) (x4 : Int32), mN μ - k < fu → k ≤ mN μ → g_X4_canRent_8 μ x y fu k x3 x4 = g_X4_canRent_8 μ x y (mN μ + 1) 0 0 0 → ∀ ls, lv_has ls 6 [(0, .ref (o)), (1, .int (x)), (2, .int (y)), (5, .int (nI k)), (3, .int (x3)), (4, .int (x4))] → W p l e rm_X4_canRent s m (([.ref (o), .int (x), .int (y)] : List Value).toArray) below meth c s.heap [] 0 0 (MQ below (vp_Si (fun r => r = f_X4_canRent μ x y)) ([.ref (o), .int (x), .int (y)] : List Value).toArray s 0 0 (fun _ => False)) (F0 m 8 ls []) := by
    intro fu
    induction fu with
    | zero => intro k x3 x4 hm; exact absurd hm (Nat.not_lt_zero _)
    | succ fu ih =>
      intro k x3 x4 hm hkN hg_8 ls hl
      refine lv_iload hx hb dX4_canRent_8 (lv_at hl 3 rfl) ?_
      refine lv_aload_n hx hb dX4_canRent_10 rfl (lv_at hl 0 rfl) ?_
      refine mo_g0 hx hb hts hown hK hP dX4_canRent_11 ?_
      refine lv_iconst (v := 1) hx hb dX4_canRent_14 (by decide) ?_
      refine mo_r0 hx hb hK hP (1) rfl (by omega) (v := μ 0 1) rfl dX4_canRent_15 ?_
      refine lv_icmp_geN (k) (mN μ) hx hb rfl (show okN μ by first | with_reducible assumption | exact okM_1 (by with_reducible assumption)).1 (by omega) (by omega) (tgt := 72) dX4_canRent_16 (by decide) (fun c_16 => ?_) (fun c_16 => ?_)
      · have ex : (x3, x4) = g_X4_canRent_8 μ x y (mN μ + 1) 0 0 0 := ((br_p c_16 rfl) : (x3, x4) = g_X4_canRent_8 μ x y (fu + 1) k x3 x4).trans hg_8
        have ex0 : x3 = (g_X4_canRent_8 μ x y (mN μ + 1) 0 0 0).1 := congrArg (fun z => z.1) ex
        have ex1 : x4 = (g_X4_canRent_8 μ x y (mN μ + 1) 0 0 0).2 := congrArg (fun z => z.2) ex
        exact K_72 ls (by rw [← ex0, ← ex1]; exact lv_sub hl [0, 1, 2, 4, 5] rfl)
      refine lv_aload_n hx hb dX4_canRent_19 rfl (lv_at hl 0 rfl) ?_
      refine lv_iload hx hb dX4_canRent_20 (lv_at hl 3 rfl) ?_
      refine lv_iconst (v := 1) hx hb dX4_canRent_22 (by decide) ?_
      refine mo_call (rest := []) hx hb hml hown hts hK hP (c_X4_is l D cI o a μ hh (nI k) k rfl 1 (by first | with_reducible assumption | omega)) (kV_X4_is hts ml_X4_55 ⟨(Nat.le_of_ble_eq_true rfl), (Nat.le_of_ble_eq_true rfl)⟩) rfl hl.1 rfl (Nat.le_of_ble_eq_true rfl) dX4_canRent_23 (Nat.zero_le _) (Nat.zero_le _) ?_
      refine lv_if_eq (tgt := 66) hx hb dX4_canRent_26 (by decide) (fun c_26 => ?_) (fun c_26 => ?_)
      · refine lv_iinc (v := nI (k + 1)) (lv' := [(5, .int (nI (k + 1))), (0, .ref (o)), (1, .int (x)), (2, .int (y)), (3, .int (x3)), (4, .int (x4))]) hx hb dX4_canRent_66 hl (k := 3) rfl (nI_c1 _) (by decide) rfl (fun ls hl => ?_)
        refine lv_goto (tgt := 8) hx hb dX4_canRent_69 (by decide) ?_
        exact ih (k + 1) x3 x4 (by omega) (by omega) (((br_n c_16 (br_p c_26 rfl)) : g_X4_canRent_8 μ x y fu (k + 1) x3 x4 = g_X4_canRent_8 μ x y (fu + 1) k x3 x4).trans hg_8) ls (lv_sub hl [1, 2, 3, 0, 4, 5] rfl)
      refine lv_aload_n hx hb dX4_canRent_29 rfl (lv_at hl 0 rfl) ?_
      refine lv_iload hx hb dX4_canRent_30 (lv_at hl 3 rfl) ?_
      refine lv_iconst (v := 4) hx hb dX4_canRent_32 (by decide) ?_
      refine mo_call (rest := []) hx hb hml hown hts hK hP (c_X4_of l D cI o a μ hh (nI k) k rfl 4 4 rfl (by first | with_reducible assumption | omega)) (kV_X4_of hts ml_X4_34 ⟨(Nat.le_of_ble_eq_true rfl), (Nat.le_of_ble_eq_true rfl)⟩) rfl hl.1 rfl (Nat.le_of_ble_eq_true rfl) dX4_canRent_33 (Nat.zero_le _) (Nat.zero_le _) ?_
      refine lv_iload_n hx hb dX4_canRent_36 rfl (lv_at hl 1 rfl) ?_
      refine lv_icmp_ne (tgt := 66) hx hb dX4_canRent_37 (by decide) (fun c_37 => ?_) (fun c_37 => ?_)
      · refine lv_iinc (v := nI (k + 1)) (lv' := [(5, .int (nI (k + 1))), (0, .ref (o)), (1, .int (x)), (2, .int (y)), (3, .int (x3)), (4, .int (x4))]) hx hb dX4_canRent_66 hl (k := 3) rfl (nI_c1 _) (by decide) rfl (fun ls hl => ?_)
        refine lv_goto (tgt := 8) hx hb dX4_canRent_69 (by decide) ?_
        exact ih (k + 1) x3 x4 (by omega) (by omega) (((br_n c_16 (br_n c_26 (br_n c_37 rfl))) : g_X4_canRent_8 μ x y fu (k + 1) x3 x4 = g_X4_canRent_8 μ x y (fu + 1) k x3 x4).trans hg_8) ls (lv_sub hl [1, 2, 3, 0, 4, 5] rfl)
      refine lv_iinc (v := x3 + 1) (lv' := [(3, .int (x3 + 1)), (0, .ref (o)), (1, .int (x)), (2, .int (y)), (5, .int (nI k)), (4, .int (x4))]) hx hb dX4_canRent_40 hl (k := 4) rfl rfl (by decide) rfl (fun ls hl => ?_)
      refine lv_iload hx hb dX4_canRent_43 (lv_at hl 5 rfl) ?_
      refine lv_if_ne (tgt := 59) hx hb dX4_canRent_45 (by decide) (fun c_45 => ?_) (fun c_45 => ?_)
      · refine lv_iconst (v := 1) hx hb dX4_canRent_59 (by decide) ?_
        refine lv_goto (tgt := 64) hx hb dX4_canRent_60 (by decide) ?_
        refine lv_istore (lv' := [(4, .int (1)), (3, .int (x3 + 1)), (0, .ref (o)), (1, .int (x)), (2, .int (y)), (5, .int (nI k))]) hx hb dX4_canRent_64 hl (by decide) rfl (fun ls hl => ?_)
        refine lv_iinc (v := nI (k + 1)) (lv' := [(5, .int (nI (k + 1))), (4, .int (1)), (3, .int (x3 + 1)), (0, .ref (o)), (1, .int (x)), (2, .int (y))]) hx hb dX4_canRent_66 hl (k := 5) rfl (nI_c1 _) (by decide) rfl (fun ls hl => ?_)
        refine lv_goto (tgt := 8) hx hb dX4_canRent_69 (by decide) ?_
        exact ih (k + 1) (x3 + 1) 1 (by omega) (by omega) (((br_n c_16 (br_n c_26 (br_p c_37 (br_n c_45 rfl)))) : g_X4_canRent_8 μ x y fu (k + 1) (x3 + 1) 1 = g_X4_canRent_8 μ x y (fu + 1) k x3 x4).trans hg_8) ls (lv_sub hl [3, 4, 5, 0, 2, 1] rfl)
      refine lv_aload_n hx hb dX4_canRent_48 rfl (lv_at hl 1 rfl) ?_
      refine lv_iload hx hb dX4_canRent_49 (lv_at hl 4 rfl) ?_
      refine lv_iconst (v := 0) hx hb dX4_canRent_51 (by decide) ?_
      refine mo_call (rest := []) hx hb hml hown hts hK hP (c_X4_of l D cI o a μ hh (nI k) k rfl 0 0 rfl (by first | with_reducible assumption | omega)) (kV_X4_of hts ml_X4_34 ⟨(Nat.le_of_ble_eq_true rfl), (Nat.le_of_ble_eq_true rfl)⟩) rfl hl.1 rfl (Nat.le_of_ble_eq_true rfl) dX4_canRent_52 (Nat.zero_le _) (Nat.zero_le _) ?_
      refine lv_iload_n hx hb dX4_canRent_55 rfl (lv_at hl 3 rfl) ?_
      refine lv_icmp_ne (tgt := 63) hx hb dX4_canRent_56 (by decide) (fun c_56 => ?_) (fun c_56 => ?_)
      · refine lv_iconst (v := 0) hx hb dX4_canRent_63 (by decide) ?_
        refine lv_istore (lv' := [(4, .int (0)), (3, .int (x3 + 1)), (0, .ref (o)), (1, .int (x)), (2, .int (y)), (5, .int (nI k))]) hx hb dX4_canRent_64 hl (by decide) rfl (fun ls hl => ?_)
        refine lv_iinc (v := nI (k + 1)) (lv' := [(5, .int (nI (k + 1))), (4, .int (0)), (3, .int (x3 + 1)), (0, .ref (o)), (1, .int (x)), (2, .int (y))]) hx hb dX4_canRent_66 hl (k := 5) rfl (nI_c1 _) (by decide) rfl (fun ls hl => ?_)
        refine lv_goto (tgt := 8) hx hb dX4_canRent_69 (by decide) ?_
        exact ih (k + 1) (x3 + 1) 0 (by omega) (by omega) (((br_n c_16 (br_n c_26 (br_p c_37 (br_p c_45 (br_n c_56 rfl))))) : g_X4_canRent_8 μ x y fu (k + 1) (x3 + 1) 0 = g_X4_canRent_8 μ x y (fu + 1) k x3 x4).trans hg_8) ls (lv_sub hl [3, 4, 5, 0, 2, 1] rfl)
      refine lv_iconst (v := 1) hx hb dX4_canRent_59 (by decide) ?_
      refine lv_goto (tgt := 64) hx hb dX4_canRent_60 (by decide) ?_
      refine lv_istore (lv' := [(4, .int (1)), (3, .int (x3 + 1)), (0, .ref (o)), (1, .int (x)), (2, .int (y)), (5, .int (nI k))]) hx hb dX4_canRent_64 hl (by decide) rfl (fun ls hl => ?_)
      refine lv_iinc (v := nI (k + 1)) (lv' := [(5, .int (nI (k + 1))), (4, .int (1)), (3, .int (x3 + 1)), (0, .ref (o)), (1, .int (x)), (2, .int (y))]) hx hb dX4_canRent_66 hl (k := 5) rfl (nI_c1 _) (by decide) rfl (fun ls hl => ?_)
      refine lv_goto (tgt := 8) hx hb dX4_canRent_69 (by decide) ?_
      exact ih (k + 1) (x3 + 1) 1 (by omega) (by omega) (((br_n c_16 (br_n c_26 (br_p c_37 (br_p c_45 (br_p c_56 rfl))))) : g_X4_canRent_8 μ x y fu (k + 1) (x3 + 1) 1 = g_X4_canRent_8 μ x y (fu + 1) k x3 x4).trans hg_8) ls (lv_sub hl [3, 4, 5, 0, 2, 1] rfl)
  exact L_8 (mN μ + 1) 0 0 0 (by omega) (by omega) rfl ls (lv_sub hl [3, 4, 5, 0, 2, 1] rfl)
theorem kV_X4_canRent {R : Room} {s : State} {args : Array Value} {own : String} {idx : Nat} {c0 : Cond} (hts : ∀ w ∈ c0 :: W0, w.before args s = true) (hl : Cond.methodLink own idx yX4_canRent ∈ W0) (hR : rm_X4_canRent.frames + 1 ≤ R.frames ∧ 8 + (6 + 11) + rm_X4_canRent.locals ≤ R.locals) : CallW R s args own RX4 idx yX4_canRent cX4_canRent 6 (some .boolean) (Cond.code yX4_canRent cX4_canRent 6 (some .boolean) :: W0) rm_X4_canRent 0 0 2 := cwV 2 hts (gdV hl mi_yX4_canRent ms_yX4_canRent mini_X4 mc_yX4_canRent) rfl rfl rfl (by decide +kernel) hR

theorem z_X4_canRent {μ : Nat → Nat → Int32} {x : Int32} {y : Int32} : f_X4_canRent μ x y = 0 ∨ f_X4_canRent μ x y = 1 := by
  unfold f_X4_canRent
  (repeat' split) <;> first | exact Or.inl rfl | exact Or.inr rfl | exact z_X4_is

/-! X4.cannotRent -/
def f_X4_cannotRent (μ : Nat → Nat → Int32) (x : Int32) (y : Int32) : Int32 := (if (f_X4_isCustomer x) = 0 then (-2) else (if (f_X4_isCourse μ y) = 0 then (-2) else (if (f_X4_canRent μ x (f_X4_ofCourse μ (tn y) 0)) = 0 then (-4) else (if (f_X4_nextOf μ (tn y)) = (-1) then (-4) else 0))))
abbrev rm_X4_cannotRent : Room := { frames := 4, cells := 0, slots := 0, locals := 90 }
set_option maxRecDepth 100000 in
theorem c_X4_cannotRent (l : Launch) (D : va_G) (cI : ClassId) (o : Nat) (a : Nat → Nat) (μ : Nat → Nat → Int32) (hh : Int64) (x : Int32) (y : Int32) (hok : okM μ) :
    Met l yX4_cannotRent (Cond.code yX4_cannotRent cX4_cannotRent 3 (some .int) :: W0) rm_X4_cannotRent (va_Pc [.ref o, .int x, .int y] (moP D cI o a μ hh)) (vp_Si (fun r => r = f_X4_cannotRent μ x y)) 0 0 (fun _ => False) := by
  refine st_gen (cc := cX4_cannotRent) (maxL := 3) (ret := some .int) (own := RX4) (by decide) rfl (Nat.le_of_ble_eq_true rfl) ?_
  intro p e s m below meth c ls C hPre hl
  obtain ⟨hx, hb, hr, hml, hown, hts, hlk⟩ := C
  obtain ⟨hP, hK⟩ := hPre
  have hl : lv_has ls 3 [(0, .ref (o)), (1, .int (x)), (2, .int (y))] := hl
  obtain ⟨hT6, hC6, hN6, hS5⟩ := okM_b hok
  refine lv_iload_n hx hb dX4_cannotRent_0 rfl (lv_at hl 1 rfl) ?_
  refine cl_S (rest := []) hx hb hml hown hts (c_X4_isCustomer l x) (kS_X4_isCustomer hts ml_X4_143 ⟨(Nat.le_of_ble_eq_true rfl), (Nat.le_of_ble_eq_true rfl)⟩) rfl hl.1 rfl (Nat.le_of_ble_eq_true rfl) dX4_cannotRent_1 (Nat.zero_le _) (Nat.zero_le _) ?_
  refine lv_if_eq (tgt := 15) hx hb dX4_cannotRent_4 (by decide) (fun c_4 => ?_) (fun c_4 => ?_)
  · refine lv_bipush (v := (-2)) hx hb dX4_cannotRent_15 (by decide) ?_
    exact fin_i hx hb hr hlk (br_p c_4 rfl) dX4_cannotRent_17
  have v_4 := isCustomer_okm c_4
  have vb_4 := v_4.1
  refine lv_aload_n hx hb dX4_cannotRent_7 rfl (lv_at hl 0 rfl) ?_
  refine lv_iload_n hx hb dX4_cannotRent_8 rfl (lv_at hl 2 rfl) ?_
  refine mo_call (rest := []) hx hb hml hown hts hK hP (c_X4_isCourse l D cI o a μ hh y) (kV_X4_isCourse hts ml_X4_72 ⟨(Nat.le_of_ble_eq_true rfl), (Nat.le_of_ble_eq_true rfl)⟩) rfl hl.1 rfl (Nat.le_of_ble_eq_true rfl) dX4_cannotRent_9 (Nat.zero_le _) (Nat.zero_le _) ?_
  refine lv_if_ne (tgt := 18) hx hb dX4_cannotRent_12 (by decide) (fun c_12 => ?_) (fun c_12 => ?_)
  · have v_12 := isCourse_okm (μ := μ) (by with_reducible assumption) c_12
    have vb_12 := v_12.1
    refine lv_aload_n hx hb dX4_cannotRent_18 rfl (lv_at hl 0 rfl) ?_
    refine lv_iload_n hx hb dX4_cannotRent_19 rfl (lv_at hl 1 rfl) ?_
    refine lv_aload_n hx hb dX4_cannotRent_20 rfl (lv_at hl 0 rfl) ?_
    refine lv_iload_n hx hb dX4_cannotRent_21 rfl (lv_at hl 2 rfl) ?_
    refine lv_iconst (v := 0) hx hb dX4_cannotRent_22 (by decide) ?_
    refine mo_call (rest := [.int (x), .ref (o)]) hx hb hml hown hts hK hP (c_X4_ofCourse l D cI o a μ hh y (tn y) v_12.2 0 0 rfl (by first | with_reducible assumption | omega)) (kV_X4_ofCourse hts ml_X4_52 ⟨(Nat.le_of_ble_eq_true rfl), (Nat.le_of_ble_eq_true rfl)⟩) rfl hl.1 rfl (Nat.le_of_ble_eq_true rfl) dX4_cannotRent_23 (Nat.zero_le _) (Nat.zero_le _) ?_
    refine mo_call (rest := []) hx hb hml hown hts hK hP (c_X4_canRent l D cI o a μ hh x (f_X4_ofCourse μ (tn y) 0) (by with_reducible assumption)) (kV_X4_canRent hts ml_X4_146 ⟨(Nat.le_of_ble_eq_true rfl), (Nat.le_of_ble_eq_true rfl)⟩) rfl hl.1 rfl (Nat.le_of_ble_eq_true rfl) dX4_cannotRent_26 (Nat.zero_le _) (Nat.zero_le _) ?_
    refine lv_if_eq (tgt := 45) hx hb dX4_cannotRent_29 (by decide) (fun c_29 => ?_) (fun c_29 => ?_)
    · refine lv_bipush (v := (-4)) hx hb dX4_cannotRent_45 (by decide) ?_
      exact fin_i hx hb hr hlk (br_n c_4 (br_n c_12 (br_p c_29 rfl))) dX4_cannotRent_47
    refine lv_aload_n hx hb dX4_cannotRent_32 rfl (lv_at hl 0 rfl) ?_
    refine lv_iload_n hx hb dX4_cannotRent_33 rfl (lv_at hl 2 rfl) ?_
    refine mo_call (rest := []) hx hb hml hown hts hK hP (c_X4_nextOf l D cI o a μ hh y (tn y) v_12.2 (by with_reducible assumption) (by first | with_reducible assumption | omega)) (kV_X4_nextOf hts ml_X4_149 ⟨(Nat.le_of_ble_eq_true rfl), (Nat.le_of_ble_eq_true rfl)⟩) rfl hl.1 rfl (Nat.le_of_ble_eq_true rfl) dX4_cannotRent_34 (Nat.zero_le _) (Nat.zero_le _) ?_
    refine lv_iconst (v := (-1)) hx hb dX4_cannotRent_37 (by decide) ?_
    refine lv_icmp_eq (tgt := 45) hx hb dX4_cannotRent_38 (by decide) (fun c_38 => ?_) (fun c_38 => ?_)
    · refine lv_bipush (v := (-4)) hx hb dX4_cannotRent_45 (by decide) ?_
      exact fin_i hx hb hr hlk (br_n c_4 (br_n c_12 (br_n c_29 (br_p c_38 rfl)))) dX4_cannotRent_47
    refine lv_iconst (v := 0) hx hb dX4_cannotRent_41 (by decide) ?_
    refine lv_goto (tgt := 47) hx hb dX4_cannotRent_42 (by decide) ?_
    exact fin_i hx hb hr hlk (br_n c_4 (br_n c_12 (br_n c_29 (br_n c_38 rfl)))) dX4_cannotRent_47
  refine lv_bipush (v := (-2)) hx hb dX4_cannotRent_15 (by decide) ?_
  exact fin_i hx hb hr hlk (br_n c_4 (br_p c_12 rfl)) dX4_cannotRent_17
theorem kV_X4_cannotRent {R : Room} {s : State} {args : Array Value} {own : String} {idx : Nat} {c0 : Cond} (hts : ∀ w ∈ c0 :: W0, w.before args s = true) (hl : Cond.methodLink own idx yX4_cannotRent ∈ W0) (hR : rm_X4_cannotRent.frames + 1 ≤ R.frames ∧ 8 + (3 + 11) + rm_X4_cannotRent.locals ≤ R.locals) : CallW R s args own RX4 idx yX4_cannotRent cX4_cannotRent 3 (some .int) (Cond.code yX4_cannotRent cX4_cannotRent 3 (some .int) :: W0) rm_X4_cannotRent 0 0 2 := cwV 2 hts (gdV hl mi_yX4_cannotRent ms_yX4_cannotRent mini_X4 mc_yX4_cannotRent) rfl rfl rfl (by decide +kernel) hR

theorem cannotRent_ok {μ : Nat → Nat → Int32} (hok : okM μ) {x y : Int32} (h : f_X4_cannotRent μ x y = 0) : (tn x < 8 ∧ x = nI (tn x)) ∧ (tn y < mC μ ∧ y = nI (tn y)) ∧ (tn (f_X4_nextOf μ (tn y)) < mN μ ∧ f_X4_nextOf μ (tn y) = nI (tn (f_X4_nextOf μ (tn y)))) := by
  unfold f_X4_cannotRent at h
  split at h
  · exact absurd h (by decide)
  · split at h
    · exact absurd h (by decide)
    · split at h
      · exact absurd h (by decide)
      · split at h
        · exact absurd h (by decide)
        · rename_i h1 h2 h3 h4
          exact ⟨isCustomer_okm h1, isCourse_okm hok h2, (nextOf_ok hok (tn y)).resolve_left h4⟩
theorem of_lo {μ μ' : Nat → Nat → Int32} (h : ∀ j, j < 413 → μ' 0 j = μ 0 j) {k w : Nat} (hk : k < 60) (hw : w < 6) : f_X4_of μ' k w = f_X4_of μ k w := h _ (by omega)
theorem crs_lo {μ μ' : Nat → Nat → Int32} (h : ∀ j, j < 413 → μ' 0 j = μ 0 j) {k w : Nat} (hk : k < 6) (hw : w < 3) : f_X4_ofCourse μ' k w = f_X4_ofCourse μ k w := h _ (by omega)
theorem takes_lo {μ μ' : Nat → Nat → Int32} (h : ∀ j, j < 413 → μ' 0 j = μ 0 j) {k jc : Nat} (hk : k < 60) (hj : jc < 6) : f_X4_takes μ' jc k = f_X4_takes μ jc k := by
  unfold f_X4_takes f_X4_is
  rw [of_lo h hk (by decide), of_lo h hk (by decide), of_lo h hk (by decide), crs_lo h hj (by decide), crs_lo h hj (by decide)]
theorem next_lo_g {μ μ' : Nat → Nat → Int32} (h : ∀ j, j < 413 → μ' 0 j = μ 0 j) (hN : mN μ ≤ 60) {jc : Nat} (hj : jc < 6) : ∀ (fu k : Nat) (b : Int32), (b = (-1) ∨ tn b < 60) → g_X4_nextOf_4 μ' jc fu k b = g_X4_nextOf_4 μ jc fu k b := by
  have hn : mN μ' = mN μ := congrArg tn (h 1 (by decide))
  intro fu
  induction fu with
  | zero => intro k b hb; rfl
  | succ fu ih =>
    intro k b hb
    rw [g_X4_nextOf_4, g_X4_nextOf_4, hn]
    by_cases hk : mN μ ≤ k
    · rw [if_pos hk, if_pos hk]
    · have k1 : k < 60 := by omega
      have ik : ∀ z, (z = (-1) ∨ tn z < 60) → g_X4_nextOf_4 μ' jc fu (k + 1) z = g_X4_nextOf_4 μ jc fu (k + 1) z := ih (k + 1)
      have inn := ik (nI k) (Or.inr (by rw [tn_nI (by omega)]; exact k1))
      have ib := ik b hb
      rw [if_neg hk, if_neg hk, takes_lo h k1 hj]
      rcases hb with rfl | hb
      · simp only [inn, ib, if_pos]
      · rw [of_lo h k1 (by decide), of_lo h k1 (by decide), of_lo h hb (by decide), of_lo h hb (by decide), inn, ib]
theorem saves_next {μ : Nat → Nat → Int32} (hok : okM μ) (jc : Nat) (hj : jc < mC μ) (h : tn (f_X4_nextOf μ jc) < mN μ ∧ f_X4_nextOf μ jc = nI (tn (f_X4_nextOf μ jc))) : tn (f_X4_nextOf (s_X4_saves μ) jc) < mN (s_X4_saves μ) ∧ f_X4_nextOf (s_X4_saves μ) jc = nI (tn (f_X4_nextOf (s_X4_saves μ) jc)) := by
  have e : f_X4_nextOf (s_X4_saves μ) jc = f_X4_nextOf μ jc := by
    have b := okM_b hok
    unfold f_X4_nextOf
    rw [(saves_n hok).1]
    exact next_lo_g (fun j hj => saves_lo hok hj) (by omega) (by omega) _ _ _ (Or.inl rfl)
  rw [e, (saves_n hok).1]
  exact h
theorem okN_of {μ μ' : Nat → Nat → Int32} (h : okM μ) (e : μ' 0 1 = μ 0 1) : okN μ' := by
  have n1 : mN μ' = mN μ := congrArg tn e
  exact ⟨e.trans (h.2.2.1.1.trans (congrArg nI n1.symm)), by rw [n1]; exact h.2.2.1.2⟩

/-! X4.rents -/
def m_X4_rents (μ : Nat → Nat → Int32) (cu : Nat) (jc : Nat) : Int32 × (Nat → Nat → Int32) := ((f_X4_nextOf μ jc), (s_X4_sets (s_X4_sets (s_X4_sets (s_X4_charges μ cu 0 (f_X4_copyNow μ (tn (f_X4_nextOf μ jc)) 7)) (tn (f_X4_nextOf μ jc)) 3 1) (tn (f_X4_nextOf μ jc)) 4 (nI cu)) (tn (f_X4_nextOf μ jc)) 5 (((s_X4_sets (s_X4_sets (s_X4_charges μ cu 0 (f_X4_copyNow μ (tn (f_X4_nextOf μ jc)) 7)) (tn (f_X4_nextOf μ jc)) 3 1) (tn (f_X4_nextOf μ jc)) 4 (nI cu)) 0 3) + ((s_X4_sets (s_X4_sets (s_X4_charges μ cu 0 (f_X4_copyNow μ (tn (f_X4_nextOf μ jc)) 7)) (tn (f_X4_nextOf μ jc)) 3 1) (tn (f_X4_nextOf μ jc)) 4 (nI cu)) 0 4))))
abbrev rm_X4_rents : Room := { frames := 4, cells := 0, slots := 0, locals := 90 }
set_option maxRecDepth 100000 in
theorem c_X4_rents (l : Launch) (D : va_G) (cI : ClassId) (o : Nat) (a : Nat → Nat) (μ : Nat → Nat → Int32) (hh : Int64) (x : Int32) (cu : Nat) (hx : x = nI cu) (y : Int32) (jc : Nat) (hy : y = nI jc) (hok : okM μ) (hcu : cu < 8) (hjc : jc < mC μ) (hnx : tn (f_X4_nextOf μ jc) < mN μ ∧ f_X4_nextOf μ jc = nI (tn (f_X4_nextOf μ jc))) :
    Met l yX4_rents (Cond.code yX4_rents cX4_rents 4 (some .int) :: W0) rm_X4_rents (va_Pc [.ref o, .int x, .int y] (moM D cI o a μ hh)) (moQ D cI o a hh (m_X4_rents μ cu jc)) 0 0 (moA o a) := by
  subst hx
  subst hy
  refine st_gen (cc := cX4_rents) (maxL := 4) (ret := some .int) (own := RX4) (by decide) rfl (Nat.le_of_ble_eq_true rfl) ?_
  intro p e s m below meth c ls C hPre hl
  obtain ⟨hx, hb, hr, hml, hown, hts, hlk⟩ := C
  obtain ⟨⟨hP, hK⟩, hD⟩ := hPre
  have hS : va_S (moA o a) s.heap s.heap [] := va_S.rf
  have hl : lv_has ls 4 [(0, .ref (o)), (1, .int (nI cu)), (2, .int (nI jc))] := hl
  obtain ⟨hT6, hC6, hN6, hS5⟩ := okM_b hok
  have hnx1 := hnx.1
  refine lv_aload_n hx hb dX4_rents_0 rfl (lv_at hl 0 rfl) ?_
  refine lv_iload_n hx hb dX4_rents_1 rfl (lv_at hl 2 rfl) ?_
  refine mo_call (rest := []) hx hb hml hown hts hK hP (c_X4_nextOf l D cI o a μ hh (nI jc) jc rfl (by with_reducible assumption) (by first | with_reducible assumption | omega)) (kV_X4_nextOf hts ml_X4_149 ⟨(Nat.le_of_ble_eq_true rfl), (Nat.le_of_ble_eq_true rfl)⟩) rfl hl.1 rfl (Nat.le_of_ble_eq_true rfl) dX4_rents_2 (Nat.zero_le _) (Nat.zero_le _) ?_
  refine lv_istore_n (lv' := [(3, .int ((f_X4_nextOf μ jc))), (0, .ref (o)), (1, .int (nI cu)), (2, .int (nI jc))]) hx hb dX4_rents_5 rfl hl (by decide) rfl (fun ls hl => ?_)
  refine lv_aload_n hx hb dX4_rents_6 rfl (lv_at hl 1 rfl) ?_
  refine lv_iload_n hx hb dX4_rents_7 rfl (lv_at hl 2 rfl) ?_
  refine lv_iconst (v := 0) hx hb dX4_rents_8 (by decide) ?_
  refine lv_aload_n hx hb dX4_rents_9 rfl (lv_at hl 1 rfl) ?_
  refine lv_iload_n hx hb dX4_rents_10 rfl (lv_at hl 0 rfl) ?_
  refine lv_bipush (v := 7) hx hb dX4_rents_11 (by decide) ?_
  refine mo_call (rest := [.int (0), .int (nI cu), .ref (o)]) hx hb hml hown hts hK hP (c_X4_copyNow l D cI o a μ hh (f_X4_nextOf μ jc) (tn (f_X4_nextOf μ jc)) hnx.2 7 7 rfl (by with_reducible assumption) (by first | with_reducible assumption | omega) (by first | with_reducible assumption | omega)) (kV_X4_copyNow hts ml_X4_108 ⟨(Nat.le_of_ble_eq_true rfl), (Nat.le_of_ble_eq_true rfl)⟩) rfl hl.1 rfl (Nat.le_of_ble_eq_true rfl) dX4_rents_13 (Nat.zero_le _) (Nat.zero_le _) ?_
  refine mo_callV (rest := []) hx hb hml hown hts hK hP hD hS (c_X4_charges l D cI o a μ hh (nI cu) cu rfl 0 0 rfl (f_X4_copyNow μ (tn (f_X4_nextOf μ jc)) 7) (by first | with_reducible assumption | omega) (by first | with_reducible assumption | omega)) (kV_X4_charges hts ml_X4_152 ⟨(Nat.le_of_ble_eq_true rfl), (Nat.le_of_ble_eq_true rfl)⟩) rfl hl.1 rfl (Nat.le_of_ble_eq_true rfl) dX4_rents_16 (Nat.zero_le _) (Nat.zero_le _) (fun H locs hP hS => ?_)
  refine lv_aload_n hx hb dX4_rents_19 rfl (lv_at hl 1 rfl) ?_
  refine lv_iload_n hx hb dX4_rents_20 rfl (lv_at hl 0 rfl) ?_
  refine lv_iconst (v := 3) hx hb dX4_rents_21 (by decide) ?_
  refine lv_iconst (v := 1) hx hb dX4_rents_22 (by decide) ?_
  refine mo_callV (rest := []) hx hb hml hown hts hK hP hD hS (c_X4_sets l D cI o a (s_X4_charges μ cu 0 (f_X4_copyNow μ (tn (f_X4_nextOf μ jc)) 7)) hh (f_X4_nextOf μ jc) (tn (f_X4_nextOf μ jc)) hnx.2 3 3 rfl 1 (by first | with_reducible assumption | omega)) (kV_X4_sets hts ml_X4_115 ⟨(Nat.le_of_ble_eq_true rfl), (Nat.le_of_ble_eq_true rfl)⟩) rfl hl.1 rfl (Nat.le_of_ble_eq_true rfl) dX4_rents_23 (Nat.zero_le _) (Nat.zero_le _) (fun H locs hP hS => ?_)
  refine lv_aload_n hx hb dX4_rents_26 rfl (lv_at hl 1 rfl) ?_
  refine lv_iload_n hx hb dX4_rents_27 rfl (lv_at hl 0 rfl) ?_
  refine lv_iconst (v := 4) hx hb dX4_rents_28 (by decide) ?_
  refine lv_iload_n hx hb dX4_rents_29 rfl (lv_at hl 2 rfl) ?_
  refine mo_callV (rest := []) hx hb hml hown hts hK hP hD hS (c_X4_sets l D cI o a (s_X4_sets (s_X4_charges μ cu 0 (f_X4_copyNow μ (tn (f_X4_nextOf μ jc)) 7)) (tn (f_X4_nextOf μ jc)) 3 1) hh (f_X4_nextOf μ jc) (tn (f_X4_nextOf μ jc)) hnx.2 4 4 rfl (nI cu) (by first | with_reducible assumption | omega)) (kV_X4_sets hts ml_X4_115 ⟨(Nat.le_of_ble_eq_true rfl), (Nat.le_of_ble_eq_true rfl)⟩) rfl hl.1 rfl (Nat.le_of_ble_eq_true rfl) dX4_rents_30 (Nat.zero_le _) (Nat.zero_le _) (fun H locs hP hS => ?_)
  refine lv_aload_n hx hb dX4_rents_33 rfl (lv_at hl 1 rfl) ?_
  refine lv_iload_n hx hb dX4_rents_34 rfl (lv_at hl 0 rfl) ?_
  refine lv_iconst (v := 5) hx hb dX4_rents_35 (by decide) ?_
  refine lv_aload_n hx hb dX4_rents_36 rfl (lv_at hl 1 rfl) ?_
  refine mo_g0 hx hb hts hown hK hP dX4_rents_37 ?_
  refine lv_iconst (v := 3) hx hb dX4_rents_40 (by decide) ?_
  refine mo_r0 hx hb hK hP (3) rfl (by omega) (v := (s_X4_sets (s_X4_sets (s_X4_charges μ cu 0 (f_X4_copyNow μ (tn (f_X4_nextOf μ jc)) 7)) (tn (f_X4_nextOf μ jc)) 3 1) (tn (f_X4_nextOf μ jc)) 4 (nI cu)) 0 3) rfl dX4_rents_41 ?_
  refine lv_aload_n hx hb dX4_rents_42 rfl (lv_at hl 1 rfl) ?_
  refine mo_g0 hx hb hts hown hK hP dX4_rents_43 ?_
  refine lv_iconst (v := 4) hx hb dX4_rents_46 (by decide) ?_
  refine mo_r0 hx hb hK hP (4) rfl (by omega) (v := (s_X4_sets (s_X4_sets (s_X4_charges μ cu 0 (f_X4_copyNow μ (tn (f_X4_nextOf μ jc)) 7)) (tn (f_X4_nextOf μ jc)) 3 1) (tn (f_X4_nextOf μ jc)) 4 (nI cu)) 0 4) rfl dX4_rents_47 ?_
  refine lv_iadd hx hb dX4_rents_48 ?_
  refine mo_callV (rest := []) hx hb hml hown hts hK hP hD hS (c_X4_sets l D cI o a (s_X4_sets (s_X4_sets (s_X4_charges μ cu 0 (f_X4_copyNow μ (tn (f_X4_nextOf μ jc)) 7)) (tn (f_X4_nextOf μ jc)) 3 1) (tn (f_X4_nextOf μ jc)) 4 (nI cu)) hh (f_X4_nextOf μ jc) (tn (f_X4_nextOf μ jc)) hnx.2 5 5 rfl (((s_X4_sets (s_X4_sets (s_X4_charges μ cu 0 (f_X4_copyNow μ (tn (f_X4_nextOf μ jc)) 7)) (tn (f_X4_nextOf μ jc)) 3 1) (tn (f_X4_nextOf μ jc)) 4 (nI cu)) 0 3) + ((s_X4_sets (s_X4_sets (s_X4_charges μ cu 0 (f_X4_copyNow μ (tn (f_X4_nextOf μ jc)) 7)) (tn (f_X4_nextOf μ jc)) 3 1) (tn (f_X4_nextOf μ jc)) 4 (nI cu)) 0 4)) (by first | with_reducible assumption | omega)) (kV_X4_sets hts ml_X4_115 ⟨(Nat.le_of_ble_eq_true rfl), (Nat.le_of_ble_eq_true rfl)⟩) rfl hl.1 rfl (Nat.le_of_ble_eq_true rfl) dX4_rents_49 (Nat.zero_le _) (Nat.zero_le _) (fun H locs hP hS => ?_)
  refine lv_iload_n hx hb dX4_rents_52 rfl (lv_at hl 0 rfl) ?_
  exact mo_finM hx hb hr hlk hK hP hS rfl dX4_rents_53
theorem kV_X4_rents {R : Room} {s : State} {args : Array Value} {own : String} {idx : Nat} {c0 : Cond} (hts : ∀ w ∈ c0 :: W0, w.before args s = true) (hl : Cond.methodLink own idx yX4_rents ∈ W0) (hR : rm_X4_rents.frames + 1 ≤ R.frames ∧ 8 + (4 + 11) + rm_X4_rents.locals ≤ R.locals) : CallW R s args own RX4 idx yX4_rents cX4_rents 4 (some .int) (Cond.code yX4_rents cX4_rents 4 (some .int) :: W0) rm_X4_rents 0 0 2 := cwV 2 hts (gdV hl mi_yX4_rents ms_yX4_rents mini_X4 mc_yX4_rents) rfl rfl rfl (by decide +kernel) hR

/-! X4.lateCharge -/
def f_X4_lateCharge (μ : Nat → Nat → Int32) (k : Nat) : Int32 := (f_X4_lesser ((f_X4_late μ k) * (μ 0 5)) (f_X4_worthOf μ k))
abbrev rm_X4_lateCharge : Room := { frames := 3, cells := 0, slots := 0, locals := 67 }
set_option maxRecDepth 100000 in
theorem c_X4_lateCharge (l : Launch) (D : va_G) (cI : ClassId) (o : Nat) (a : Nat → Nat) (μ : Nat → Nat → Int32) (hh : Int64) (x : Int32) (k : Nat) (hx : x = nI k) (hok : okM μ) (hk : k < mN μ) :
    Met l yX4_lateCharge (Cond.code yX4_lateCharge cX4_lateCharge 2 (some .int) :: W0) rm_X4_lateCharge (va_Pc [.ref o, .int x] (moP D cI o a μ hh)) (vp_Si (fun r => r = f_X4_lateCharge μ k)) 0 0 (fun _ => False) := by
  subst hx
  refine st_gen (cc := cX4_lateCharge) (maxL := 2) (ret := some .int) (own := RX4) (by decide) rfl (Nat.le_of_ble_eq_true rfl) ?_
  intro p e s m below meth c ls C hPre hl
  obtain ⟨hx, hb, hr, hml, hown, hts, hlk⟩ := C
  obtain ⟨hP, hK⟩ := hPre
  have hl : lv_has ls 2 [(0, .ref (o)), (1, .int (nI k))] := hl
  obtain ⟨hT6, hC6, hN6, hS5⟩ := okM_b hok
  refine lv_aload_n hx hb dX4_lateCharge_0 rfl (lv_at hl 0 rfl) ?_
  refine lv_iload_n hx hb dX4_lateCharge_1 rfl (lv_at hl 1 rfl) ?_
  refine mo_call (rest := []) hx hb hml hown hts hK hP (c_X4_late l D cI o a μ hh (nI k) k rfl (by first | with_reducible assumption | omega)) (kV_X4_late hts ml_X4_102 ⟨(Nat.le_of_ble_eq_true rfl), (Nat.le_of_ble_eq_true rfl)⟩) rfl hl.1 rfl (Nat.le_of_ble_eq_true rfl) dX4_lateCharge_2 (Nat.zero_le _) (Nat.zero_le _) ?_
  refine lv_aload_n hx hb dX4_lateCharge_5 rfl (lv_at hl 0 rfl) ?_
  refine mo_g0 hx hb hts hown hK hP dX4_lateCharge_6 ?_
  refine lv_iconst (v := 5) hx hb dX4_lateCharge_9 (by decide) ?_
  refine mo_r0 hx hb hK hP (5) rfl (by omega) (v := μ 0 5) rfl dX4_lateCharge_10 ?_
  refine lv_imul hx hb dX4_lateCharge_11 ?_
  refine lv_aload_n hx hb dX4_lateCharge_12 rfl (lv_at hl 0 rfl) ?_
  refine lv_iload_n hx hb dX4_lateCharge_13 rfl (lv_at hl 1 rfl) ?_
  refine mo_call (rest := [.int ((f_X4_late μ k) * (μ 0 5))]) hx hb hml hown hts hK hP (c_X4_worthOf l D cI o a μ hh (nI k) k rfl (by with_reducible assumption) (by first | with_reducible assumption | omega)) (kV_X4_worthOf hts ml_X4_99 ⟨(Nat.le_of_ble_eq_true rfl), (Nat.le_of_ble_eq_true rfl)⟩) rfl hl.1 rfl (Nat.le_of_ble_eq_true rfl) dX4_lateCharge_14 (Nat.zero_le _) (Nat.zero_le _) ?_
  refine cl_S (rest := []) hx hb hml hown hts (c_X4_lesser l ((f_X4_late μ k) * (μ 0 5)) (f_X4_worthOf μ k)) (kS_X4_lesser hts ml_X4_45 ⟨(Nat.le_of_ble_eq_true rfl), (Nat.le_of_ble_eq_true rfl)⟩) rfl hl.1 rfl (Nat.le_of_ble_eq_true rfl) dX4_lateCharge_17 (Nat.zero_le _) (Nat.zero_le _) ?_
  exact fin_i hx hb hr hlk rfl dX4_lateCharge_20
theorem kV_X4_lateCharge {R : Room} {s : State} {args : Array Value} {own : String} {idx : Nat} {c0 : Cond} (hts : ∀ w ∈ c0 :: W0, w.before args s = true) (hl : Cond.methodLink own idx yX4_lateCharge ∈ W0) (hR : rm_X4_lateCharge.frames + 1 ≤ R.frames ∧ 8 + (2 + 11) + rm_X4_lateCharge.locals ≤ R.locals) : CallW R s args own RX4 idx yX4_lateCharge cX4_lateCharge 2 (some .int) (Cond.code yX4_lateCharge cX4_lateCharge 2 (some .int) :: W0) rm_X4_lateCharge 0 0 1 := cwV 1 hts (gdV hl mi_yX4_lateCharge ms_yX4_lateCharge mini_X4 mc_yX4_lateCharge) rfl rfl rfl (by decide +kernel) hR

/-! X4.damageCharge -/
def f_X4_damageCharge (μ : Nat → Nat → Int32) (k : Nat) (y : Int32) : Int32 := (if ((f_X4_of μ k 2) + y) ≤ 4 then (if 2 ≤ y then (f_X4_worth μ (mt μ k) (f_X4_of μ k 1) ((f_X4_of μ k 2) + 1)) - (f_X4_worth μ (mt μ k) (f_X4_of μ k 1) ((f_X4_of μ k 2) + y)) else 0) else (f_X4_worthOf μ k))
abbrev rm_X4_damageCharge : Room := { frames := 3, cells := 0, slots := 0, locals := 67 }
set_option maxRecDepth 100000 in
theorem c_X4_damageCharge (l : Launch) (D : va_G) (cI : ClassId) (o : Nat) (a : Nat → Nat) (μ : Nat → Nat → Int32) (hh : Int64) (x : Int32) (k : Nat) (hx : x = nI k) (y : Int32) (hok : okM μ) (hk : k < mN μ) :
    Met l yX4_damageCharge (Cond.code yX4_damageCharge cX4_damageCharge 4 (some .int) :: W0) rm_X4_damageCharge (va_Pc [.ref o, .int x, .int y] (moP D cI o a μ hh)) (vp_Si (fun r => r = f_X4_damageCharge μ k y)) 0 0 (fun _ => False) := by
  subst hx
  refine st_gen (cc := cX4_damageCharge) (maxL := 4) (ret := some .int) (own := RX4) (by decide) rfl (Nat.le_of_ble_eq_true rfl) ?_
  intro p e s m below meth c ls C hPre hl
  obtain ⟨hx, hb, hr, hml, hown, hts, hlk⟩ := C
  obtain ⟨hP, hK⟩ := hPre
  have hl : lv_has ls 4 [(0, .ref (o)), (1, .int (nI k)), (2, .int (y))] := hl
  obtain ⟨hT6, hC6, hN6, hS5⟩ := okM_b hok
  refine lv_aload_n hx hb dX4_damageCharge_0 rfl (lv_at hl 0 rfl) ?_
  refine lv_iload_n hx hb dX4_damageCharge_1 rfl (lv_at hl 1 rfl) ?_
  refine lv_iconst (v := 2) hx hb dX4_damageCharge_2 (by decide) ?_
  refine mo_call (rest := []) hx hb hml hown hts hK hP (c_X4_of l D cI o a μ hh (nI k) k rfl 2 2 rfl (by first | with_reducible assumption | omega)) (kV_X4_of hts ml_X4_34 ⟨(Nat.le_of_ble_eq_true rfl), (Nat.le_of_ble_eq_true rfl)⟩) rfl hl.1 rfl (Nat.le_of_ble_eq_true rfl) dX4_damageCharge_3 (Nat.zero_le _) (Nat.zero_le _) ?_
  refine lv_istore_n (lv' := [(3, .int ((f_X4_of μ k 2))), (0, .ref (o)), (1, .int (nI k)), (2, .int (y))]) hx hb dX4_damageCharge_6 rfl hl (by decide) rfl (fun ls hl => ?_)
  refine lv_iload_n hx hb dX4_damageCharge_7 rfl (lv_at hl 0 rfl) ?_
  refine lv_iload_n hx hb dX4_damageCharge_8 rfl (lv_at hl 3 rfl) ?_
  refine lv_iadd hx hb dX4_damageCharge_9 ?_
  refine lv_iconst (v := 4) hx hb dX4_damageCharge_10 (by decide) ?_
  refine lv_icmp_le (tgt := 20) hx hb dX4_damageCharge_11 (by decide) (fun c_11 => ?_) (fun c_11 => ?_)
  · refine lv_iload_n hx hb dX4_damageCharge_20 rfl (lv_at hl 3 rfl) ?_
    refine lv_iconst (v := 2) hx hb dX4_damageCharge_21 (by decide) ?_
    refine lv_icmp_ge (tgt := 29) hx hb dX4_damageCharge_22 (by decide) (fun c_22 => ?_) (fun c_22 => ?_)
    · refine lv_aload_n hx hb dX4_damageCharge_29 rfl (lv_at hl 1 rfl) ?_
      refine lv_aload_n hx hb dX4_damageCharge_30 rfl (lv_at hl 1 rfl) ?_
      refine lv_iload_n hx hb dX4_damageCharge_31 rfl (lv_at hl 2 rfl) ?_
      refine lv_iconst (v := 0) hx hb dX4_damageCharge_32 (by decide) ?_
      refine mo_call (rest := [.ref (o)]) hx hb hml hown hts hK hP (c_X4_of l D cI o a μ hh (nI k) k rfl 0 0 rfl (by first | with_reducible assumption | omega)) (kV_X4_of hts ml_X4_34 ⟨(Nat.le_of_ble_eq_true rfl), (Nat.le_of_ble_eq_true rfl)⟩) rfl hl.1 rfl (Nat.le_of_ble_eq_true rfl) dX4_damageCharge_33 (Nat.zero_le _) (Nat.zero_le _) ?_
      refine lv_aload_n hx hb dX4_damageCharge_36 rfl (lv_at hl 1 rfl) ?_
      refine lv_iload_n hx hb dX4_damageCharge_37 rfl (lv_at hl 2 rfl) ?_
      refine lv_iconst (v := 1) hx hb dX4_damageCharge_38 (by decide) ?_
      refine mo_call (rest := [.int ((f_X4_of μ k 0)), .ref (o)]) hx hb hml hown hts hK hP (c_X4_of l D cI o a μ hh (nI k) k rfl 1 1 rfl (by first | with_reducible assumption | omega)) (kV_X4_of hts ml_X4_34 ⟨(Nat.le_of_ble_eq_true rfl), (Nat.le_of_ble_eq_true rfl)⟩) rfl hl.1 rfl (Nat.le_of_ble_eq_true rfl) dX4_damageCharge_39 (Nat.zero_le _) (Nat.zero_le _) ?_
      refine lv_iload_n hx hb dX4_damageCharge_42 rfl (lv_at hl 0 rfl) ?_
      refine lv_iconst (v := 1) hx hb dX4_damageCharge_43 (by decide) ?_
      refine lv_iadd hx hb dX4_damageCharge_44 ?_
      have := (okM_t (μ := μ) (by with_reducible assumption) (k := k) (by omega)).2
      refine mo_call (rest := []) hx hb hml hown hts hK hP (c_X4_worth l D cI o a μ hh (f_X4_of μ k 0) (mt μ k) ((okM_t (μ := μ) (by with_reducible assumption) (k := k) (by omega)).1) (f_X4_of μ k 1) ((f_X4_of μ k 2) + 1) (by first | with_reducible assumption | omega)) (kV_X4_worth hts ml_X4_48 ⟨(Nat.le_of_ble_eq_true rfl), (Nat.le_of_ble_eq_true rfl)⟩) rfl hl.1 rfl (Nat.le_of_ble_eq_true rfl) dX4_damageCharge_45 (Nat.zero_le _) (Nat.zero_le _) ?_
      refine lv_aload_n hx hb dX4_damageCharge_48 rfl (lv_at hl 1 rfl) ?_
      refine lv_aload_n hx hb dX4_damageCharge_49 rfl (lv_at hl 1 rfl) ?_
      refine lv_iload_n hx hb dX4_damageCharge_50 rfl (lv_at hl 2 rfl) ?_
      refine lv_iconst (v := 0) hx hb dX4_damageCharge_51 (by decide) ?_
      refine mo_call (rest := [.ref (o), .int ((f_X4_worth μ (mt μ k) (f_X4_of μ k 1) ((f_X4_of μ k 2) + 1)))]) hx hb hml hown hts hK hP (c_X4_of l D cI o a μ hh (nI k) k rfl 0 0 rfl (by first | with_reducible assumption | omega)) (kV_X4_of hts ml_X4_34 ⟨(Nat.le_of_ble_eq_true rfl), (Nat.le_of_ble_eq_true rfl)⟩) rfl hl.1 rfl (Nat.le_of_ble_eq_true rfl) dX4_damageCharge_52 (Nat.zero_le _) (Nat.zero_le _) ?_
      refine lv_aload_n hx hb dX4_damageCharge_55 rfl (lv_at hl 1 rfl) ?_
      refine lv_iload_n hx hb dX4_damageCharge_56 rfl (lv_at hl 2 rfl) ?_
      refine lv_iconst (v := 1) hx hb dX4_damageCharge_57 (by decide) ?_
      refine mo_call (rest := [.int ((f_X4_of μ k 0)), .ref (o), .int ((f_X4_worth μ (mt μ k) (f_X4_of μ k 1) ((f_X4_of μ k 2) + 1)))]) hx hb hml hown hts hK hP (c_X4_of l D cI o a μ hh (nI k) k rfl 1 1 rfl (by first | with_reducible assumption | omega)) (kV_X4_of hts ml_X4_34 ⟨(Nat.le_of_ble_eq_true rfl), (Nat.le_of_ble_eq_true rfl)⟩) rfl hl.1 rfl (Nat.le_of_ble_eq_true rfl) dX4_damageCharge_58 (Nat.zero_le _) (Nat.zero_le _) ?_
      refine lv_iload_n hx hb dX4_damageCharge_61 rfl (lv_at hl 0 rfl) ?_
      refine lv_iload_n hx hb dX4_damageCharge_62 rfl (lv_at hl 3 rfl) ?_
      refine lv_iadd hx hb dX4_damageCharge_63 ?_
      have := (okM_t (μ := μ) (by with_reducible assumption) (k := k) (by omega)).2
      refine mo_call (rest := [.int ((f_X4_worth μ (mt μ k) (f_X4_of μ k 1) ((f_X4_of μ k 2) + 1)))]) hx hb hml hown hts hK hP (c_X4_worth l D cI o a μ hh (f_X4_of μ k 0) (mt μ k) ((okM_t (μ := μ) (by with_reducible assumption) (k := k) (by omega)).1) (f_X4_of μ k 1) ((f_X4_of μ k 2) + y) (by first | with_reducible assumption | omega)) (kV_X4_worth hts ml_X4_48 ⟨(Nat.le_of_ble_eq_true rfl), (Nat.le_of_ble_eq_true rfl)⟩) rfl hl.1 rfl (Nat.le_of_ble_eq_true rfl) dX4_damageCharge_64 (Nat.zero_le _) (Nat.zero_le _) ?_
      refine lv_isub hx hb dX4_damageCharge_67 ?_
      exact fin_i hx hb hr hlk (br_p c_11 (br_p c_22 rfl)) dX4_damageCharge_68
    refine lv_iconst (v := 0) hx hb dX4_damageCharge_25 (by decide) ?_
    refine lv_goto (tgt := 68) hx hb dX4_damageCharge_26 (by decide) ?_
    exact fin_i hx hb hr hlk (br_p c_11 (br_n c_22 rfl)) dX4_damageCharge_68
  refine lv_aload_n hx hb dX4_damageCharge_14 rfl (lv_at hl 1 rfl) ?_
  refine lv_iload_n hx hb dX4_damageCharge_15 rfl (lv_at hl 2 rfl) ?_
  refine mo_call (rest := []) hx hb hml hown hts hK hP (c_X4_worthOf l D cI o a μ hh (nI k) k rfl (by with_reducible assumption) (by first | with_reducible assumption | omega)) (kV_X4_worthOf hts ml_X4_99 ⟨(Nat.le_of_ble_eq_true rfl), (Nat.le_of_ble_eq_true rfl)⟩) rfl hl.1 rfl (Nat.le_of_ble_eq_true rfl) dX4_damageCharge_16 (Nat.zero_le _) (Nat.zero_le _) ?_
  exact fin_i hx hb hr hlk (br_n c_11 rfl) dX4_damageCharge_19
theorem kV_X4_damageCharge {R : Room} {s : State} {args : Array Value} {own : String} {idx : Nat} {c0 : Cond} (hts : ∀ w ∈ c0 :: W0, w.before args s = true) (hl : Cond.methodLink own idx yX4_damageCharge ∈ W0) (hR : rm_X4_damageCharge.frames + 1 ≤ R.frames ∧ 8 + (4 + 11) + rm_X4_damageCharge.locals ≤ R.locals) : CallW R s args own RX4 idx yX4_damageCharge cX4_damageCharge 4 (some .int) (Cond.code yX4_damageCharge cX4_damageCharge 4 (some .int) :: W0) rm_X4_damageCharge 0 0 2 := cwV 2 hts (gdV hl mi_yX4_damageCharge ms_yX4_damageCharge mini_X4 mc_yX4_damageCharge) rfl rfl rfl (by decide +kernel) hR

/-! X4.cannotGive -/
def f_X4_cannotGive (μ : Nat → Nat → Int32) (x : Int32) (y : Int32) : Int32 := (if (f_X4_isCopy μ x) = 0 then (-2) else (if (f_X4_in y 0 4) = 0 then (-3) else (if (f_X4_is μ (tn x) 1) = 0 then (-4) else 0)))
abbrev rm_X4_cannotGive : Room := { frames := 2, cells := 0, slots := 0, locals := 44 }
set_option maxRecDepth 100000 in
theorem c_X4_cannotGive (l : Launch) (D : va_G) (cI : ClassId) (o : Nat) (a : Nat → Nat) (μ : Nat → Nat → Int32) (hh : Int64) (x : Int32) (y : Int32) (hok : okM μ) :
    Met l yX4_cannotGive (Cond.code yX4_cannotGive cX4_cannotGive 3 (some .int) :: W0) rm_X4_cannotGive (va_Pc [.ref o, .int x, .int y] (moP D cI o a μ hh)) (vp_Si (fun r => r = f_X4_cannotGive μ x y)) 0 0 (fun _ => False) := by
  refine st_gen (cc := cX4_cannotGive) (maxL := 3) (ret := some .int) (own := RX4) (by decide) rfl (Nat.le_of_ble_eq_true rfl) ?_
  intro p e s m below meth c ls C hPre hl
  obtain ⟨hx, hb, hr, hml, hown, hts, hlk⟩ := C
  obtain ⟨hP, hK⟩ := hPre
  have hl : lv_has ls 3 [(0, .ref (o)), (1, .int (x)), (2, .int (y))] := hl
  obtain ⟨hT6, hC6, hN6, hS5⟩ := okM_b hok
  refine lv_aload_n hx hb dX4_cannotGive_0 rfl (lv_at hl 0 rfl) ?_
  refine lv_iload_n hx hb dX4_cannotGive_1 rfl (lv_at hl 1 rfl) ?_
  refine mo_call (rest := []) hx hb hml hown hts hK hP (c_X4_isCopy l D cI o a μ hh x) (kV_X4_isCopy hts ml_X4_105 ⟨(Nat.le_of_ble_eq_true rfl), (Nat.le_of_ble_eq_true rfl)⟩) rfl hl.1 rfl (Nat.le_of_ble_eq_true rfl) dX4_cannotGive_2 (Nat.zero_le _) (Nat.zero_le _) ?_
  refine lv_if_ne (tgt := 11) hx hb dX4_cannotGive_5 (by decide) (fun c_5 => ?_) (fun c_5 => ?_)
  · have v_5 := isCopy_okm (μ := μ) (by with_reducible assumption) c_5
    have vb_5 := v_5.1
    refine lv_iload_n hx hb dX4_cannotGive_11 rfl (lv_at hl 2 rfl) ?_
    refine lv_iconst (v := 0) hx hb dX4_cannotGive_12 (by decide) ?_
    refine lv_iconst (v := 4) hx hb dX4_cannotGive_13 (by decide) ?_
    refine cl_S (rest := []) hx hb hml hown hts (c_X4_in l y 0 4) (kS_X4_in hts ml_X4_30 ⟨(Nat.le_of_ble_eq_true rfl), (Nat.le_of_ble_eq_true rfl)⟩) rfl hl.1 rfl (Nat.le_of_ble_eq_true rfl) dX4_cannotGive_14 (Nat.zero_le _) (Nat.zero_le _) ?_
    refine lv_if_ne (tgt := 25) hx hb dX4_cannotGive_17 (by decide) (fun c_17 => ?_) (fun c_17 => ?_)
    · have v_17 := inN 4 c_17 (by decide) rfl (by decide)
      have vb_17 := v_17.1
      refine lv_aload_n hx hb dX4_cannotGive_25 rfl (lv_at hl 0 rfl) ?_
      refine lv_iload_n hx hb dX4_cannotGive_26 rfl (lv_at hl 1 rfl) ?_
      refine lv_iconst (v := 1) hx hb dX4_cannotGive_27 (by decide) ?_
      refine mo_call (rest := []) hx hb hml hown hts hK hP (c_X4_is l D cI o a μ hh x (tn x) v_5.2 1 (by first | with_reducible assumption | omega)) (kV_X4_is hts ml_X4_55 ⟨(Nat.le_of_ble_eq_true rfl), (Nat.le_of_ble_eq_true rfl)⟩) rfl hl.1 rfl (Nat.le_of_ble_eq_true rfl) dX4_cannotGive_28 (Nat.zero_le _) (Nat.zero_le _) ?_
      refine lv_if_eq (tgt := 38) hx hb dX4_cannotGive_31 (by decide) (fun c_31 => ?_) (fun c_31 => ?_)
      · refine lv_bipush (v := (-4)) hx hb dX4_cannotGive_38 (by decide) ?_
        exact fin_i hx hb hr hlk (br_n c_5 (br_n c_17 (br_p c_31 rfl))) dX4_cannotGive_40
      refine lv_iconst (v := 0) hx hb dX4_cannotGive_34 (by decide) ?_
      refine lv_goto (tgt := 40) hx hb dX4_cannotGive_35 (by decide) ?_
      exact fin_i hx hb hr hlk (br_n c_5 (br_n c_17 (br_n c_31 rfl))) dX4_cannotGive_40
    refine lv_bipush (v := (-3)) hx hb dX4_cannotGive_20 (by decide) ?_
    refine lv_goto (tgt := 40) hx hb dX4_cannotGive_22 (by decide) ?_
    exact fin_i hx hb hr hlk (br_n c_5 (br_p c_17 rfl)) dX4_cannotGive_40
  refine lv_bipush (v := (-2)) hx hb dX4_cannotGive_8 (by decide) ?_
  exact fin_i hx hb hr hlk (br_p c_5 rfl) dX4_cannotGive_10
theorem kV_X4_cannotGive {R : Room} {s : State} {args : Array Value} {own : String} {idx : Nat} {c0 : Cond} (hts : ∀ w ∈ c0 :: W0, w.before args s = true) (hl : Cond.methodLink own idx yX4_cannotGive ∈ W0) (hR : rm_X4_cannotGive.frames + 1 ≤ R.frames ∧ 8 + (3 + 11) + rm_X4_cannotGive.locals ≤ R.locals) : CallW R s args own RX4 idx yX4_cannotGive cX4_cannotGive 3 (some .int) (Cond.code yX4_cannotGive cX4_cannotGive 3 (some .int) :: W0) rm_X4_cannotGive 0 0 2 := cwV 2 hts (gdV hl mi_yX4_cannotGive ms_yX4_cannotGive mini_X4 mc_yX4_cannotGive) rfl rfl rfl (by decide +kernel) hR

theorem cannotGive_ok {μ : Nat → Nat → Int32} (hok : okM μ) {x y : Int32} (h : f_X4_cannotGive μ x y = 0) : (tn x < mN μ ∧ x = nI (tn x)) ∧ μ 0 (53 + 6 * tn x + 3) = 1 := by
  unfold f_X4_cannotGive at h
  split at h
  · exact absurd h (by decide)
  · split at h
    · exact absurd h (by decide)
    · split at h
      · exact absurd h (by decide)
      · rename_i h1 h2 h3; exact ⟨isCopy_okm hok h1, is_1 h3⟩

/-! X4.gives -/
def m_X4_gives (μ : Nat → Nat → Int32) (k : Nat) (y : Int32) : Int32 × (Nat → Nat → Int32) := (if ((f_X4_of μ k 2) + y) ≤ 4 then ((f_X4_lateCharge μ k) + (f_X4_damageCharge μ k y), (s_X4_goes (s_X4_sets (s_X4_charges (s_X4_charges μ (mr μ k) 1 (f_X4_lateCharge μ k)) (mr μ k) 2 (f_X4_damageCharge μ k y)) k 2 ((f_X4_of (s_X4_charges (s_X4_charges μ (mr μ k) 1 (f_X4_lateCharge μ k)) (mr μ k) 2 (f_X4_damageCharge μ k y)) k 2) + y)) k 0)) else ((f_X4_lateCharge μ k) + (f_X4_damageCharge μ k y), (s_X4_goes (s_X4_sets (s_X4_charges (s_X4_charges μ (mr μ k) 1 (f_X4_lateCharge μ k)) (mr μ k) 3 (f_X4_damageCharge μ k y)) k 2 (f_X4_of (s_X4_charges (s_X4_charges μ (mr μ k) 1 (f_X4_lateCharge μ k)) (mr μ k) 3 (f_X4_damageCharge μ k y)) k 2)) k 3)))
abbrev rm_X4_gives : Room := { frames := 4, cells := 0, slots := 0, locals := 90 }
set_option maxRecDepth 100000 in
theorem c_X4_gives (l : Launch) (D : va_G) (cI : ClassId) (o : Nat) (a : Nat → Nat) (μ : Nat → Nat → Int32) (hh : Int64) (x : Int32) (k : Nat) (hx : x = nI k) (y : Int32) (hok : okM μ) (hk : k < mN μ) (h1 : μ 0 (53 + 6 * k + 3) = 1) :
    Met l yX4_gives (Cond.code yX4_gives cX4_gives 6 (some .int) :: W0) rm_X4_gives (va_Pc [.ref o, .int x, .int y] (moM D cI o a μ hh)) (moQ D cI o a hh (m_X4_gives μ k y)) 0 0 (moA o a) := by
  subst hx
  refine st_gen (cc := cX4_gives) (maxL := 6) (ret := some .int) (own := RX4) (by decide) rfl (Nat.le_of_ble_eq_true rfl) ?_
  intro p e s m below meth c ls C hPre hl
  obtain ⟨hx, hb, hr, hml, hown, hts, hlk⟩ := C
  obtain ⟨⟨hP, hK⟩, hD⟩ := hPre
  have hS : va_S (moA o a) s.heap s.heap [] := va_S.rf
  have hl : lv_has ls 6 [(0, .ref (o)), (1, .int (nI k)), (2, .int (y))] := hl
  obtain ⟨hT6, hC6, hN6, hS5⟩ := okM_b hok
  have hr8 := okM_r hok hk h1
  have hr9 := hr8.2
  refine lv_aload_n hx hb dX4_gives_0 rfl (lv_at hl 0 rfl) ?_
  refine lv_iload_n hx hb dX4_gives_1 rfl (lv_at hl 1 rfl) ?_
  refine mo_call (rest := []) hx hb hml hown hts hK hP (c_X4_lateCharge l D cI o a μ hh (nI k) k rfl (by with_reducible assumption) (by first | with_reducible assumption | omega)) (kV_X4_lateCharge hts ml_X4_161 ⟨(Nat.le_of_ble_eq_true rfl), (Nat.le_of_ble_eq_true rfl)⟩) rfl hl.1 rfl (Nat.le_of_ble_eq_true rfl) dX4_gives_2 (Nat.zero_le _) (Nat.zero_le _) ?_
  refine lv_istore_n (lv' := [(3, .int ((f_X4_lateCharge μ k))), (0, .ref (o)), (1, .int (nI k)), (2, .int (y))]) hx hb dX4_gives_5 rfl hl (by decide) rfl (fun ls hl => ?_)
  refine lv_aload_n hx hb dX4_gives_6 rfl (lv_at hl 1 rfl) ?_
  refine lv_iload_n hx hb dX4_gives_7 rfl (lv_at hl 2 rfl) ?_
  refine lv_iload_n hx hb dX4_gives_8 rfl (lv_at hl 3 rfl) ?_
  refine mo_call (rest := []) hx hb hml hown hts hK hP (c_X4_damageCharge l D cI o a μ hh (nI k) k rfl y (by with_reducible assumption) (by first | with_reducible assumption | omega)) (kV_X4_damageCharge hts ml_X4_164 ⟨(Nat.le_of_ble_eq_true rfl), (Nat.le_of_ble_eq_true rfl)⟩) rfl hl.1 rfl (Nat.le_of_ble_eq_true rfl) dX4_gives_9 (Nat.zero_le _) (Nat.zero_le _) ?_
  refine lv_istore (lv' := [(4, .int ((f_X4_damageCharge μ k y))), (3, .int ((f_X4_lateCharge μ k))), (0, .ref (o)), (1, .int (nI k)), (2, .int (y))]) hx hb dX4_gives_12 hl (by decide) rfl (fun ls hl => ?_)
  refine lv_aload_n hx hb dX4_gives_14 rfl (lv_at hl 2 rfl) ?_
  refine lv_iload_n hx hb dX4_gives_15 rfl (lv_at hl 3 rfl) ?_
  refine lv_iconst (v := 2) hx hb dX4_gives_16 (by decide) ?_
  refine mo_call (rest := []) hx hb hml hown hts hK hP (c_X4_of l D cI o a μ hh (nI k) k rfl 2 2 rfl (by first | with_reducible assumption | omega)) (kV_X4_of hts ml_X4_34 ⟨(Nat.le_of_ble_eq_true rfl), (Nat.le_of_ble_eq_true rfl)⟩) rfl hl.1 rfl (Nat.le_of_ble_eq_true rfl) dX4_gives_17 (Nat.zero_le _) (Nat.zero_le _) ?_
  refine lv_iload_n hx hb dX4_gives_20 rfl (lv_at hl 4 rfl) ?_
  refine lv_iadd hx hb dX4_gives_21 ?_
  refine lv_iconst (v := 4) hx hb dX4_gives_22 (by decide) ?_
  refine lv_icmp_le (tgt := 30) hx hb dX4_gives_23 (by decide) (fun c_23 => ?_) (fun c_23 => ?_)
  · refine lv_iconst (v := 0) hx hb dX4_gives_30 (by decide) ?_
    refine lv_istore (lv' := [(5, .int (0)), (4, .int ((f_X4_damageCharge μ k y))), (3, .int ((f_X4_lateCharge μ k))), (0, .ref (o)), (1, .int (nI k)), (2, .int (y))]) hx hb dX4_gives_31 hl (by decide) rfl (fun ls hl => ?_)
    refine lv_aload_n hx hb dX4_gives_33 rfl (lv_at hl 3 rfl) ?_
    refine lv_aload_n hx hb dX4_gives_34 rfl (lv_at hl 3 rfl) ?_
    refine lv_iload_n hx hb dX4_gives_35 rfl (lv_at hl 4 rfl) ?_
    refine lv_iconst (v := 4) hx hb dX4_gives_36 (by decide) ?_
    refine mo_call (rest := [.ref (o)]) hx hb hml hown hts hK hP (c_X4_of l D cI o a μ hh (nI k) k rfl 4 4 rfl (by first | with_reducible assumption | omega)) (kV_X4_of hts ml_X4_34 ⟨(Nat.le_of_ble_eq_true rfl), (Nat.le_of_ble_eq_true rfl)⟩) rfl hl.1 rfl (Nat.le_of_ble_eq_true rfl) dX4_gives_37 (Nat.zero_le _) (Nat.zero_le _) ?_
    refine lv_iconst (v := 1) hx hb dX4_gives_40 (by decide) ?_
    refine lv_iload_n hx hb dX4_gives_41 rfl (lv_at hl 2 rfl) ?_
    refine mo_callV (rest := []) hx hb hml hown hts hK hP hD hS (c_X4_charges l D cI o a μ hh (f_X4_of μ k 4) (mr μ k) hr8.1 1 1 rfl (f_X4_lateCharge μ k) (by first | with_reducible assumption | omega) (by first | with_reducible assumption | omega)) (kV_X4_charges hts ml_X4_152 ⟨(Nat.le_of_ble_eq_true rfl), (Nat.le_of_ble_eq_true rfl)⟩) rfl hl.1 rfl (Nat.le_of_ble_eq_true rfl) dX4_gives_42 (Nat.zero_le _) (Nat.zero_le _) (fun H locs hP hS => ?_)
    have hcr : f_X4_of (s_X4_charges μ (mr μ k) 1 (f_X4_lateCharge μ k)) k 4 = nI (mr μ k) := (charges_hi hr9 (by decide) (by omega)).trans hr8.1
    refine lv_aload_n hx hb dX4_gives_45 rfl (lv_at hl 3 rfl) ?_
    refine lv_aload_n hx hb dX4_gives_46 rfl (lv_at hl 3 rfl) ?_
    refine lv_iload_n hx hb dX4_gives_47 rfl (lv_at hl 4 rfl) ?_
    refine lv_iconst (v := 4) hx hb dX4_gives_48 (by decide) ?_
    refine mo_call (rest := [.ref (o)]) hx hb hml hown hts hK hP (c_X4_of l D cI o a (s_X4_charges μ (mr μ k) 1 (f_X4_lateCharge μ k)) hh (nI k) k rfl 4 4 rfl (by first | with_reducible assumption | omega)) (kV_X4_of hts ml_X4_34 ⟨(Nat.le_of_ble_eq_true rfl), (Nat.le_of_ble_eq_true rfl)⟩) rfl hl.1 rfl (Nat.le_of_ble_eq_true rfl) dX4_gives_49 (Nat.zero_le _) (Nat.zero_le _) ?_
    refine lv_iload hx hb dX4_gives_52 (lv_at hl 0 rfl) ?_
    refine lv_if_eq (tgt := 61) hx hb dX4_gives_54 (by decide) (fun _ => ?_) (fun q => absurd rfl q)
    refine lv_iconst (v := 2) hx hb dX4_gives_61 (by decide) ?_
    refine lv_iload hx hb dX4_gives_62 (lv_at hl 1 rfl) ?_
    refine mo_callV (rest := []) hx hb hml hown hts hK hP hD hS (c_X4_charges l D cI o a (s_X4_charges μ (mr μ k) 1 (f_X4_lateCharge μ k)) hh (f_X4_of (s_X4_charges μ (mr μ k) 1 (f_X4_lateCharge μ k)) k 4) (mr μ k) hcr 2 2 rfl (f_X4_damageCharge μ k y) (by first | with_reducible assumption | omega) (by first | with_reducible assumption | omega)) (kV_X4_charges hts ml_X4_152 ⟨(Nat.le_of_ble_eq_true rfl), (Nat.le_of_ble_eq_true rfl)⟩) rfl hl.1 rfl (Nat.le_of_ble_eq_true rfl) dX4_gives_64 (Nat.zero_le _) (Nat.zero_le _) (fun H locs hP hS => ?_)
    refine lv_aload_n hx hb dX4_gives_67 rfl (lv_at hl 3 rfl) ?_
    refine lv_iload_n hx hb dX4_gives_68 rfl (lv_at hl 4 rfl) ?_
    refine lv_iconst (v := 2) hx hb dX4_gives_69 (by decide) ?_
    refine lv_iload hx hb dX4_gives_70 (lv_at hl 0 rfl) ?_
    refine lv_if_eq (tgt := 84) hx hb dX4_gives_72 (by decide) (fun _ => ?_) (fun q => absurd rfl q)
    refine lv_aload_n hx hb dX4_gives_84 rfl (lv_at hl 3 rfl) ?_
    refine lv_iload_n hx hb dX4_gives_85 rfl (lv_at hl 4 rfl) ?_
    refine lv_iconst (v := 2) hx hb dX4_gives_86 (by decide) ?_
    refine mo_call (rest := [.int (2), .int (nI k), .ref (o)]) hx hb hml hown hts hK hP (c_X4_of l D cI o a (s_X4_charges (s_X4_charges μ (mr μ k) 1 (f_X4_lateCharge μ k)) (mr μ k) 2 (f_X4_damageCharge μ k y)) hh (nI k) k rfl 2 2 rfl (by first | with_reducible assumption | omega)) (kV_X4_of hts ml_X4_34 ⟨(Nat.le_of_ble_eq_true rfl), (Nat.le_of_ble_eq_true rfl)⟩) rfl hl.1 rfl (Nat.le_of_ble_eq_true rfl) dX4_gives_87 (Nat.zero_le _) (Nat.zero_le _) ?_
    refine lv_iload_n hx hb dX4_gives_90 rfl (lv_at hl 5 rfl) ?_
    refine lv_iadd hx hb dX4_gives_91 ?_
    refine mo_callV (rest := []) hx hb hml hown hts hK hP hD hS (c_X4_sets l D cI o a (s_X4_charges (s_X4_charges μ (mr μ k) 1 (f_X4_lateCharge μ k)) (mr μ k) 2 (f_X4_damageCharge μ k y)) hh (nI k) k rfl 2 2 rfl ((f_X4_of (s_X4_charges (s_X4_charges μ (mr μ k) 1 (f_X4_lateCharge μ k)) (mr μ k) 2 (f_X4_damageCharge μ k y)) k 2) + y) (by first | with_reducible assumption | omega)) (kV_X4_sets hts ml_X4_115 ⟨(Nat.le_of_ble_eq_true rfl), (Nat.le_of_ble_eq_true rfl)⟩) rfl hl.1 rfl (Nat.le_of_ble_eq_true rfl) dX4_gives_92 (Nat.zero_le _) (Nat.zero_le _) (fun H locs hP hS => ?_)
    refine lv_aload_n hx hb dX4_gives_95 rfl (lv_at hl 3 rfl) ?_
    refine lv_iload_n hx hb dX4_gives_96 rfl (lv_at hl 4 rfl) ?_
    refine lv_iload hx hb dX4_gives_97 (lv_at hl 0 rfl) ?_
    refine lv_if_eq (tgt := 106) hx hb dX4_gives_99 (by decide) (fun _ => ?_) (fun q => absurd rfl q)
    refine lv_iconst (v := 0) hx hb dX4_gives_106 (by decide) ?_
    refine mo_callV (rest := []) hx hb hml hown hts hK hP hD hS (c_X4_goes l D cI o a (s_X4_sets (s_X4_charges (s_X4_charges μ (mr μ k) 1 (f_X4_lateCharge μ k)) (mr μ k) 2 (f_X4_damageCharge μ k y)) k 2 ((f_X4_of (s_X4_charges (s_X4_charges μ (mr μ k) 1 (f_X4_lateCharge μ k)) (mr μ k) 2 (f_X4_damageCharge μ k y)) k 2) + y)) hh (nI k) k rfl 0 (by first | with_reducible assumption | omega)) (kV_X4_goes hts ml_X4_134 ⟨(Nat.le_of_ble_eq_true rfl), (Nat.le_of_ble_eq_true rfl)⟩) rfl hl.1 rfl (Nat.le_of_ble_eq_true rfl) dX4_gives_107 (Nat.zero_le _) (Nat.zero_le _) (fun H locs hP hS => ?_)
    refine lv_iload_n hx hb dX4_gives_110 rfl (lv_at hl 2 rfl) ?_
    refine lv_iload hx hb dX4_gives_111 (lv_at hl 1 rfl) ?_
    refine lv_iadd hx hb dX4_gives_113 ?_
    exact mo_finM hx hb hr hlk hK hP hS (br_p c_23 rfl) dX4_gives_114
  refine lv_iconst (v := 1) hx hb dX4_gives_26 (by decide) ?_
  refine lv_goto (tgt := 31) hx hb dX4_gives_27 (by decide) ?_
  refine lv_istore (lv' := [(5, .int (1)), (4, .int ((f_X4_damageCharge μ k y))), (3, .int ((f_X4_lateCharge μ k))), (0, .ref (o)), (1, .int (nI k)), (2, .int (y))]) hx hb dX4_gives_31 hl (by decide) rfl (fun ls hl => ?_)
  refine lv_aload_n hx hb dX4_gives_33 rfl (lv_at hl 3 rfl) ?_
  refine lv_aload_n hx hb dX4_gives_34 rfl (lv_at hl 3 rfl) ?_
  refine lv_iload_n hx hb dX4_gives_35 rfl (lv_at hl 4 rfl) ?_
  refine lv_iconst (v := 4) hx hb dX4_gives_36 (by decide) ?_
  refine mo_call (rest := [.ref (o)]) hx hb hml hown hts hK hP (c_X4_of l D cI o a μ hh (nI k) k rfl 4 4 rfl (by first | with_reducible assumption | omega)) (kV_X4_of hts ml_X4_34 ⟨(Nat.le_of_ble_eq_true rfl), (Nat.le_of_ble_eq_true rfl)⟩) rfl hl.1 rfl (Nat.le_of_ble_eq_true rfl) dX4_gives_37 (Nat.zero_le _) (Nat.zero_le _) ?_
  refine lv_iconst (v := 1) hx hb dX4_gives_40 (by decide) ?_
  refine lv_iload_n hx hb dX4_gives_41 rfl (lv_at hl 2 rfl) ?_
  refine mo_callV (rest := []) hx hb hml hown hts hK hP hD hS (c_X4_charges l D cI o a μ hh (f_X4_of μ k 4) (mr μ k) hr8.1 1 1 rfl (f_X4_lateCharge μ k) (by first | with_reducible assumption | omega) (by first | with_reducible assumption | omega)) (kV_X4_charges hts ml_X4_152 ⟨(Nat.le_of_ble_eq_true rfl), (Nat.le_of_ble_eq_true rfl)⟩) rfl hl.1 rfl (Nat.le_of_ble_eq_true rfl) dX4_gives_42 (Nat.zero_le _) (Nat.zero_le _) (fun H locs hP hS => ?_)
  have hcr : f_X4_of (s_X4_charges μ (mr μ k) 1 (f_X4_lateCharge μ k)) k 4 = nI (mr μ k) := (charges_hi hr9 (by decide) (by omega)).trans hr8.1
  refine lv_aload_n hx hb dX4_gives_45 rfl (lv_at hl 3 rfl) ?_
  refine lv_aload_n hx hb dX4_gives_46 rfl (lv_at hl 3 rfl) ?_
  refine lv_iload_n hx hb dX4_gives_47 rfl (lv_at hl 4 rfl) ?_
  refine lv_iconst (v := 4) hx hb dX4_gives_48 (by decide) ?_
  refine mo_call (rest := [.ref (o)]) hx hb hml hown hts hK hP (c_X4_of l D cI o a (s_X4_charges μ (mr μ k) 1 (f_X4_lateCharge μ k)) hh (nI k) k rfl 4 4 rfl (by first | with_reducible assumption | omega)) (kV_X4_of hts ml_X4_34 ⟨(Nat.le_of_ble_eq_true rfl), (Nat.le_of_ble_eq_true rfl)⟩) rfl hl.1 rfl (Nat.le_of_ble_eq_true rfl) dX4_gives_49 (Nat.zero_le _) (Nat.zero_le _) ?_
  refine lv_iload hx hb dX4_gives_52 (lv_at hl 0 rfl) ?_
  refine lv_if_eq (tgt := 61) hx hb dX4_gives_54 (by decide) (fun q => absurd q (by decide)) (fun _ => ?_)
  refine lv_iconst (v := 3) hx hb dX4_gives_57 (by decide) ?_
  refine lv_goto (tgt := 62) hx hb dX4_gives_58 (by decide) ?_
  refine lv_iload hx hb dX4_gives_62 (lv_at hl 1 rfl) ?_
  refine mo_callV (rest := []) hx hb hml hown hts hK hP hD hS (c_X4_charges l D cI o a (s_X4_charges μ (mr μ k) 1 (f_X4_lateCharge μ k)) hh (f_X4_of (s_X4_charges μ (mr μ k) 1 (f_X4_lateCharge μ k)) k 4) (mr μ k) hcr 3 3 rfl (f_X4_damageCharge μ k y) (by first | with_reducible assumption | omega) (by first | with_reducible assumption | omega)) (kV_X4_charges hts ml_X4_152 ⟨(Nat.le_of_ble_eq_true rfl), (Nat.le_of_ble_eq_true rfl)⟩) rfl hl.1 rfl (Nat.le_of_ble_eq_true rfl) dX4_gives_64 (Nat.zero_le _) (Nat.zero_le _) (fun H locs hP hS => ?_)
  refine lv_aload_n hx hb dX4_gives_67 rfl (lv_at hl 3 rfl) ?_
  refine lv_iload_n hx hb dX4_gives_68 rfl (lv_at hl 4 rfl) ?_
  refine lv_iconst (v := 2) hx hb dX4_gives_69 (by decide) ?_
  refine lv_iload hx hb dX4_gives_70 (lv_at hl 0 rfl) ?_
  refine lv_if_eq (tgt := 84) hx hb dX4_gives_72 (by decide) (fun q => absurd q (by decide)) (fun _ => ?_)
  refine lv_aload_n hx hb dX4_gives_75 rfl (lv_at hl 3 rfl) ?_
  refine lv_iload_n hx hb dX4_gives_76 rfl (lv_at hl 4 rfl) ?_
  refine lv_iconst (v := 2) hx hb dX4_gives_77 (by decide) ?_
  refine mo_call (rest := [.int (2), .int (nI k), .ref (o)]) hx hb hml hown hts hK hP (c_X4_of l D cI o a (s_X4_charges (s_X4_charges μ (mr μ k) 1 (f_X4_lateCharge μ k)) (mr μ k) 3 (f_X4_damageCharge μ k y)) hh (nI k) k rfl 2 2 rfl (by first | with_reducible assumption | omega)) (kV_X4_of hts ml_X4_34 ⟨(Nat.le_of_ble_eq_true rfl), (Nat.le_of_ble_eq_true rfl)⟩) rfl hl.1 rfl (Nat.le_of_ble_eq_true rfl) dX4_gives_78 (Nat.zero_le _) (Nat.zero_le _) ?_
  refine lv_goto (tgt := 92) hx hb dX4_gives_81 (by decide) ?_
  refine mo_callV (rest := []) hx hb hml hown hts hK hP hD hS (c_X4_sets l D cI o a (s_X4_charges (s_X4_charges μ (mr μ k) 1 (f_X4_lateCharge μ k)) (mr μ k) 3 (f_X4_damageCharge μ k y)) hh (nI k) k rfl 2 2 rfl (f_X4_of (s_X4_charges (s_X4_charges μ (mr μ k) 1 (f_X4_lateCharge μ k)) (mr μ k) 3 (f_X4_damageCharge μ k y)) k 2) (by first | with_reducible assumption | omega)) (kV_X4_sets hts ml_X4_115 ⟨(Nat.le_of_ble_eq_true rfl), (Nat.le_of_ble_eq_true rfl)⟩) rfl hl.1 rfl (Nat.le_of_ble_eq_true rfl) dX4_gives_92 (Nat.zero_le _) (Nat.zero_le _) (fun H locs hP hS => ?_)
  refine lv_aload_n hx hb dX4_gives_95 rfl (lv_at hl 3 rfl) ?_
  refine lv_iload_n hx hb dX4_gives_96 rfl (lv_at hl 4 rfl) ?_
  refine lv_iload hx hb dX4_gives_97 (lv_at hl 0 rfl) ?_
  refine lv_if_eq (tgt := 106) hx hb dX4_gives_99 (by decide) (fun q => absurd q (by decide)) (fun _ => ?_)
  refine lv_iconst (v := 3) hx hb dX4_gives_102 (by decide) ?_
  refine lv_goto (tgt := 107) hx hb dX4_gives_103 (by decide) ?_
  refine mo_callV (rest := []) hx hb hml hown hts hK hP hD hS (c_X4_goes l D cI o a (s_X4_sets (s_X4_charges (s_X4_charges μ (mr μ k) 1 (f_X4_lateCharge μ k)) (mr μ k) 3 (f_X4_damageCharge μ k y)) k 2 (f_X4_of (s_X4_charges (s_X4_charges μ (mr μ k) 1 (f_X4_lateCharge μ k)) (mr μ k) 3 (f_X4_damageCharge μ k y)) k 2)) hh (nI k) k rfl 3 (by first | with_reducible assumption | omega)) (kV_X4_goes hts ml_X4_134 ⟨(Nat.le_of_ble_eq_true rfl), (Nat.le_of_ble_eq_true rfl)⟩) rfl hl.1 rfl (Nat.le_of_ble_eq_true rfl) dX4_gives_107 (Nat.zero_le _) (Nat.zero_le _) (fun H locs hP hS => ?_)
  refine lv_iload_n hx hb dX4_gives_110 rfl (lv_at hl 2 rfl) ?_
  refine lv_iload hx hb dX4_gives_111 (lv_at hl 1 rfl) ?_
  refine lv_iadd hx hb dX4_gives_113 ?_
  exact mo_finM hx hb hr hlk hK hP hS (br_n c_23 rfl) dX4_gives_114
theorem kV_X4_gives {R : Room} {s : State} {args : Array Value} {own : String} {idx : Nat} {c0 : Cond} (hts : ∀ w ∈ c0 :: W0, w.before args s = true) (hl : Cond.methodLink own idx yX4_gives ∈ W0) (hR : rm_X4_gives.frames + 1 ≤ R.frames ∧ 8 + (6 + 11) + rm_X4_gives.locals ≤ R.locals) : CallW R s args own RX4 idx yX4_gives cX4_gives 6 (some .int) (Cond.code yX4_gives cX4_gives 6 (some .int) :: W0) rm_X4_gives 0 0 2 := cwV 2 hts (gdV hl mi_yX4_gives ms_yX4_gives mini_X4 mc_yX4_gives) rfl rfl rfl (by decide +kernel) hR

/-! X4.charge -/
def f_X4_charge (μ : Nat → Nat → Int32) (x : Int32) (y : Int32) (z : Int32) : Int32 := (if (f_X4_isCopy μ x) = 0 then (-2) else (if (f_X4_in y 0 4) = 0 then (-3) else (if (f_X4_in z 0 2) = 0 then (-3) else (if (f_X4_is μ (tn x) 1) = 0 then (-4) else (if z = 1 then (if tn z = 0 then nI (0 + 0) else 0 + (f_X4_damageCharge μ (tn x) y)) else (if tn z = 0 then (f_X4_lateCharge μ (tn x)) + 0 else (f_X4_lateCharge μ (tn x)) + (f_X4_damageCharge μ (tn x) y)))))))
abbrev rm_X4_charge : Room := { frames := 4, cells := 0, slots := 0, locals := 90 }
set_option maxRecDepth 100000 in
theorem c_X4_charge (l : Launch) (D : va_G) (cI : ClassId) (o : Nat) (a : Nat → Nat) (μ : Nat → Nat → Int32) (hh : Int64) (x : Int32) (y : Int32) (z : Int32) (hok : okM μ) :
    Met l yX4_charge (Cond.code yX4_charge cX4_charge 4 (some .int) :: W0) rm_X4_charge (va_Pc [.ref o, .int x, .int y, .int z] (moP D cI o a μ hh)) (vp_Si (fun r => r = f_X4_charge μ x y z)) 0 0 (fun _ => False) := by
  refine st_gen (cc := cX4_charge) (maxL := 4) (ret := some .int) (own := RX4) (by decide) rfl (Nat.le_of_ble_eq_true rfl) ?_
  intro p e s m below meth c ls C hPre hl
  obtain ⟨hx, hb, hr, hml, hown, hts, hlk⟩ := C
  obtain ⟨hP, hK⟩ := hPre
  have hl : lv_has ls 4 [(0, .ref (o)), (1, .int (x)), (2, .int (y)), (3, .int (z))] := hl
  obtain ⟨hT6, hC6, hN6, hS5⟩ := okM_b hok
  refine lv_aload_n hx hb dX4_charge_0 rfl (lv_at hl 0 rfl) ?_
  refine lv_iload_n hx hb dX4_charge_1 rfl (lv_at hl 1 rfl) ?_
  refine mo_call (rest := []) hx hb hml hown hts hK hP (c_X4_isCopy l D cI o a μ hh x) (kV_X4_isCopy hts ml_X4_105 ⟨(Nat.le_of_ble_eq_true rfl), (Nat.le_of_ble_eq_true rfl)⟩) rfl hl.1 rfl (Nat.le_of_ble_eq_true rfl) dX4_charge_2 (Nat.zero_le _) (Nat.zero_le _) ?_
  refine lv_if_ne (tgt := 11) hx hb dX4_charge_5 (by decide) (fun c_5 => ?_) (fun c_5 => ?_)
  · have v_5 := isCopy_okm (μ := μ) (by with_reducible assumption) c_5
    have vb_5 := v_5.1
    refine lv_iload_n hx hb dX4_charge_11 rfl (lv_at hl 2 rfl) ?_
    refine lv_iconst (v := 0) hx hb dX4_charge_12 (by decide) ?_
    refine lv_iconst (v := 4) hx hb dX4_charge_13 (by decide) ?_
    refine cl_S (rest := []) hx hb hml hown hts (c_X4_in l y 0 4) (kS_X4_in hts ml_X4_30 ⟨(Nat.le_of_ble_eq_true rfl), (Nat.le_of_ble_eq_true rfl)⟩) rfl hl.1 rfl (Nat.le_of_ble_eq_true rfl) dX4_charge_14 (Nat.zero_le _) (Nat.zero_le _) ?_
    refine lv_if_eq (tgt := 29) hx hb dX4_charge_17 (by decide) (fun c_17 => ?_) (fun c_17 => ?_)
    · refine lv_bipush (v := (-3)) hx hb dX4_charge_29 (by decide) ?_
      exact fin_i hx hb hr hlk (br_n c_5 (br_p c_17 rfl)) dX4_charge_31
    have v_17 := inN 4 c_17 (by decide) rfl (by decide)
    have vb_17 := v_17.1
    refine lv_iload_n hx hb dX4_charge_20 rfl (lv_at hl 3 rfl) ?_
    refine lv_iconst (v := 0) hx hb dX4_charge_21 (by decide) ?_
    refine lv_iconst (v := 2) hx hb dX4_charge_22 (by decide) ?_
    refine cl_S (rest := []) hx hb hml hown hts (c_X4_in l z 0 2) (kS_X4_in hts ml_X4_30 ⟨(Nat.le_of_ble_eq_true rfl), (Nat.le_of_ble_eq_true rfl)⟩) rfl hl.1 rfl (Nat.le_of_ble_eq_true rfl) dX4_charge_23 (Nat.zero_le _) (Nat.zero_le _) ?_
    refine lv_if_ne (tgt := 32) hx hb dX4_charge_26 (by decide) (fun c_26 => ?_) (fun c_26 => ?_)
    · have v_26 := inN 2 c_26 (by decide) rfl (by decide)
      have vb_26 := v_26.1
      refine lv_aload_n hx hb dX4_charge_32 rfl (lv_at hl 0 rfl) ?_
      refine lv_iload_n hx hb dX4_charge_33 rfl (lv_at hl 1 rfl) ?_
      refine lv_iconst (v := 1) hx hb dX4_charge_34 (by decide) ?_
      refine mo_call (rest := []) hx hb hml hown hts hK hP (c_X4_is l D cI o a μ hh x (tn x) v_5.2 1 (by first | with_reducible assumption | omega)) (kV_X4_is hts ml_X4_55 ⟨(Nat.le_of_ble_eq_true rfl), (Nat.le_of_ble_eq_true rfl)⟩) rfl hl.1 rfl (Nat.le_of_ble_eq_true rfl) dX4_charge_35 (Nat.zero_le _) (Nat.zero_le _) ?_
      refine lv_if_ne (tgt := 44) hx hb dX4_charge_38 (by decide) (fun c_38 => ?_) (fun c_38 => ?_)
      · refine lv_iload_n hx hb dX4_charge_44 rfl (lv_at hl 3 rfl) ?_
        refine lv_iconst (v := 1) hx hb dX4_charge_45 (by decide) ?_
        refine lv_icmp_eq (tgt := 57) hx hb dX4_charge_46 (by decide) (fun c_46 => ?_) (fun c_46 => ?_)
        · refine lv_iconst (v := 0) hx hb dX4_charge_57 (by decide) ?_
          refine lv_iload_n hx hb dX4_charge_58 rfl (lv_at hl 3 rfl) ?_
          refine lv_if_eqN (tn z) hx hb v_26.2 (by omega) (tgt := 71) dX4_charge_59 (by decide) (fun c_59 => ?_) (fun c_59 => ?_)
          · refine lv_iconst (v := 0) hx hb dX4_charge_71 (by decide) ?_
            refine lv_iaddN (x := 0) (y := 0) hx hb rfl rfl dX4_charge_72 ?_
            exact fin_i hx hb hr hlk (br_n c_5 (br_n c_17 (br_n c_26 (br_n c_38 (br_p c_46 (br_p c_59 rfl)))))) dX4_charge_73
          refine lv_aload_n hx hb dX4_charge_62 rfl (lv_at hl 0 rfl) ?_
          refine lv_iload_n hx hb dX4_charge_63 rfl (lv_at hl 1 rfl) ?_
          refine lv_iload_n hx hb dX4_charge_64 rfl (lv_at hl 2 rfl) ?_
          refine mo_call (rest := [.int (0)]) hx hb hml hown hts hK hP (c_X4_damageCharge l D cI o a μ hh x (tn x) v_5.2 y (by with_reducible assumption) (by first | with_reducible assumption | omega)) (kV_X4_damageCharge hts ml_X4_164 ⟨(Nat.le_of_ble_eq_true rfl), (Nat.le_of_ble_eq_true rfl)⟩) rfl hl.1 rfl (Nat.le_of_ble_eq_true rfl) dX4_charge_65 (Nat.zero_le _) (Nat.zero_le _) ?_
          refine lv_goto (tgt := 72) hx hb dX4_charge_68 (by decide) ?_
          refine lv_iadd hx hb dX4_charge_72 ?_
          exact fin_i hx hb hr hlk (br_n c_5 (br_n c_17 (br_n c_26 (br_n c_38 (br_p c_46 (br_n c_59 rfl)))))) dX4_charge_73
        refine lv_aload_n hx hb dX4_charge_49 rfl (lv_at hl 0 rfl) ?_
        refine lv_iload_n hx hb dX4_charge_50 rfl (lv_at hl 1 rfl) ?_
        refine mo_call (rest := []) hx hb hml hown hts hK hP (c_X4_lateCharge l D cI o a μ hh x (tn x) v_5.2 (by with_reducible assumption) (by first | with_reducible assumption | omega)) (kV_X4_lateCharge hts ml_X4_161 ⟨(Nat.le_of_ble_eq_true rfl), (Nat.le_of_ble_eq_true rfl)⟩) rfl hl.1 rfl (Nat.le_of_ble_eq_true rfl) dX4_charge_51 (Nat.zero_le _) (Nat.zero_le _) ?_
        refine lv_goto (tgt := 58) hx hb dX4_charge_54 (by decide) ?_
        refine lv_iload_n hx hb dX4_charge_58 rfl (lv_at hl 3 rfl) ?_
        refine lv_if_eqN (tn z) hx hb v_26.2 (by omega) (tgt := 71) dX4_charge_59 (by decide) (fun c_59 => ?_) (fun c_59 => ?_)
        · refine lv_iconst (v := 0) hx hb dX4_charge_71 (by decide) ?_
          refine lv_iadd hx hb dX4_charge_72 ?_
          exact fin_i hx hb hr hlk (br_n c_5 (br_n c_17 (br_n c_26 (br_n c_38 (br_n c_46 (br_p c_59 rfl)))))) dX4_charge_73
        refine lv_aload_n hx hb dX4_charge_62 rfl (lv_at hl 0 rfl) ?_
        refine lv_iload_n hx hb dX4_charge_63 rfl (lv_at hl 1 rfl) ?_
        refine lv_iload_n hx hb dX4_charge_64 rfl (lv_at hl 2 rfl) ?_
        refine mo_call (rest := [.int ((f_X4_lateCharge μ (tn x)))]) hx hb hml hown hts hK hP (c_X4_damageCharge l D cI o a μ hh x (tn x) v_5.2 y (by with_reducible assumption) (by first | with_reducible assumption | omega)) (kV_X4_damageCharge hts ml_X4_164 ⟨(Nat.le_of_ble_eq_true rfl), (Nat.le_of_ble_eq_true rfl)⟩) rfl hl.1 rfl (Nat.le_of_ble_eq_true rfl) dX4_charge_65 (Nat.zero_le _) (Nat.zero_le _) ?_
        refine lv_goto (tgt := 72) hx hb dX4_charge_68 (by decide) ?_
        refine lv_iadd hx hb dX4_charge_72 ?_
        exact fin_i hx hb hr hlk (br_n c_5 (br_n c_17 (br_n c_26 (br_n c_38 (br_n c_46 (br_n c_59 rfl)))))) dX4_charge_73
      refine lv_bipush (v := (-4)) hx hb dX4_charge_41 (by decide) ?_
      exact fin_i hx hb hr hlk (br_n c_5 (br_n c_17 (br_n c_26 (br_p c_38 rfl)))) dX4_charge_43
    refine lv_bipush (v := (-3)) hx hb dX4_charge_29 (by decide) ?_
    exact fin_i hx hb hr hlk (br_n c_5 (br_n c_17 (br_p c_26 rfl))) dX4_charge_31
  refine lv_bipush (v := (-2)) hx hb dX4_charge_8 (by decide) ?_
  exact fin_i hx hb hr hlk (br_p c_5 rfl) dX4_charge_10
theorem kV_X4_charge {R : Room} {s : State} {args : Array Value} {own : String} {idx : Nat} {c0 : Cond} (hts : ∀ w ∈ c0 :: W0, w.before args s = true) (hl : Cond.methodLink own idx yX4_charge ∈ W0) (hR : rm_X4_charge.frames + 1 ≤ R.frames ∧ 8 + (4 + 11) + rm_X4_charge.locals ≤ R.locals) : CallW R s args own RX4 idx yX4_charge cX4_charge 4 (some .int) (Cond.code yX4_charge cX4_charge 4 (some .int) :: W0) rm_X4_charge 0 0 3 := cwV 3 hts (gdV hl mi_yX4_charge ms_yX4_charge mini_X4 mc_yX4_charge) rfl rfl rfl (by decide +kernel) hR

/-! X4.cannotPass -/
def f_X4_cannotPass (μ : Nat → Nat → Int32) (x : Int32) : Int32 := (if (f_X4_in x 1 400) = 0 then (-3) else (if ((μ 0 3) + x) ≤ 100000 then 0 else (-5)))
abbrev rm_X4_cannotPass : Room := { frames := 1, cells := 0, slots := 0, locals := 22 }
set_option maxRecDepth 100000 in
theorem c_X4_cannotPass (l : Launch) (D : va_G) (cI : ClassId) (o : Nat) (a : Nat → Nat) (μ : Nat → Nat → Int32) (hh : Int64) (x : Int32) :
    Met l yX4_cannotPass (Cond.code yX4_cannotPass cX4_cannotPass 2 (some .int) :: W0) rm_X4_cannotPass (va_Pc [.ref o, .int x] (moP D cI o a μ hh)) (vp_Si (fun r => r = f_X4_cannotPass μ x)) 0 0 (fun _ => False) := by
  refine st_gen (cc := cX4_cannotPass) (maxL := 2) (ret := some .int) (own := RX4) (by decide) rfl (Nat.le_of_ble_eq_true rfl) ?_
  intro p e s m below meth c ls C hPre hl
  obtain ⟨hx, hb, hr, hml, hown, hts, hlk⟩ := C
  obtain ⟨hP, hK⟩ := hPre
  have hl : lv_has ls 2 [(0, .ref (o)), (1, .int (x))] := hl
  refine lv_iload_n hx hb dX4_cannotPass_0 rfl (lv_at hl 1 rfl) ?_
  refine lv_iconst (v := 1) hx hb dX4_cannotPass_1 (by decide) ?_
  refine lv_sipush (v := 400) hx hb dX4_cannotPass_2 (by decide) ?_
  refine cl_S (rest := []) hx hb hml hown hts (c_X4_in l x 1 400) (kS_X4_in hts ml_X4_30 ⟨(Nat.le_of_ble_eq_true rfl), (Nat.le_of_ble_eq_true rfl)⟩) rfl hl.1 rfl (Nat.le_of_ble_eq_true rfl) dX4_cannotPass_5 (Nat.zero_le _) (Nat.zero_le _) ?_
  refine lv_if_ne (tgt := 16) hx hb dX4_cannotPass_8 (by decide) (fun c_8 => ?_) (fun c_8 => ?_)
  · have v_8 := inN 400 c_8 (by decide) rfl (by decide)
    have vb_8 := v_8.1
    refine lv_aload_n hx hb dX4_cannotPass_16 rfl (lv_at hl 0 rfl) ?_
    refine mo_g0 hx hb hts hown hK hP dX4_cannotPass_17 ?_
    refine lv_iconst (v := 3) hx hb dX4_cannotPass_20 (by decide) ?_
    refine mo_r0 hx hb hK hP (3) rfl (by omega) (v := μ 0 3) rfl dX4_cannotPass_21 ?_
    refine lv_iload_n hx hb dX4_cannotPass_22 rfl (lv_at hl 1 rfl) ?_
    refine lv_iadd hx hb dX4_cannotPass_23 ?_
    refine lv_ldc (v := 100000) hx hb hown (hts _ (List.mem_cons_of_mem _ mk_X4_173)) dX4_cannotPass_24 ?_
    refine lv_icmp_le (tgt := 34) hx hb dX4_cannotPass_26 (by decide) (fun c_26 => ?_) (fun c_26 => ?_)
    · refine lv_iconst (v := 0) hx hb dX4_cannotPass_34 (by decide) ?_
      exact fin_i hx hb hr hlk (br_n c_8 (br_p c_26 rfl)) dX4_cannotPass_35
    refine lv_bipush (v := (-5)) hx hb dX4_cannotPass_29 (by decide) ?_
    refine lv_goto (tgt := 35) hx hb dX4_cannotPass_31 (by decide) ?_
    exact fin_i hx hb hr hlk (br_n c_8 (br_n c_26 rfl)) dX4_cannotPass_35
  refine lv_bipush (v := (-3)) hx hb dX4_cannotPass_11 (by decide) ?_
  refine lv_goto (tgt := 35) hx hb dX4_cannotPass_13 (by decide) ?_
  exact fin_i hx hb hr hlk (br_p c_8 rfl) dX4_cannotPass_35
theorem kV_X4_cannotPass {R : Room} {s : State} {args : Array Value} {own : String} {idx : Nat} {c0 : Cond} (hts : ∀ w ∈ c0 :: W0, w.before args s = true) (hl : Cond.methodLink own idx yX4_cannotPass ∈ W0) (hR : rm_X4_cannotPass.frames + 1 ≤ R.frames ∧ 8 + (2 + 11) + rm_X4_cannotPass.locals ≤ R.locals) : CallW R s args own RX4 idx yX4_cannotPass cX4_cannotPass 2 (some .int) (Cond.code yX4_cannotPass cX4_cannotPass 2 (some .int) :: W0) rm_X4_cannotPass 0 0 1 := cwV 1 hts (gdV hl mi_yX4_cannotPass ms_yX4_cannotPass mini_X4 mc_yX4_cannotPass) rfl rfl rfl (by decide +kernel) hR

/-! X4.passes -/
def g_X4_passes_14 (μ : Nat → Nat → Int32) (x : Int32) : Nat → (Nat) → (Int32) → (Nat → Nat → Int32) → Int32 × (Nat → Nat → Int32)
  | 0, k, x2, ω => (x2, ω)
  | fu + 1, k, x2, ω => (if mN ω ≤ k then (x2, ω) else (if (f_X4_late ω k) ≤ (ω 0 6) then g_X4_passes_14 μ x fu (k + 1) x2 ω else g_X4_passes_14 μ x fu (k + 1) (x2 + 1) (s_X4_goes (s_X4_charges ω (mr ω k) 3 (f_X4_worthOf ω k)) k 3)))
def m_X4_passes (μ : Nat → Nat → Int32) (x : Int32) : Int32 × (Nat → Nat → Int32) := ((g_X4_passes_14 μ x (mN μ + 1) 0 0 (shU μ 0 3 ((μ 0 3) + x))).1, (g_X4_passes_14 μ x (mN μ + 1) 0 0 (shU μ 0 3 ((μ 0 3) + x))).2)
abbrev rm_X4_passes : Room := { frames := 3, cells := 0, slots := 0, locals := 67 }
set_option maxRecDepth 100000 in
theorem c_X4_passes (l : Launch) (D : va_G) (cI : ClassId) (o : Nat) (a : Nat → Nat) (μ : Nat → Nat → Int32) (hh : Int64) (x : Int32) (hok : okM μ) :
    Met l yX4_passes (Cond.code yX4_passes cX4_passes 4 (some .int) :: W0) rm_X4_passes (va_Pc [.ref o, .int x] (moM D cI o a μ hh)) (moQ D cI o a hh (m_X4_passes μ x)) 0 0 (moA o a) := by
  refine st_gen (cc := cX4_passes) (maxL := 4) (ret := some .int) (own := RX4) (by decide) rfl (Nat.le_of_ble_eq_true rfl) ?_
  intro p e s m below meth c ls C hPre hl
  obtain ⟨hx, hb, hr, hml, hown, hts, hlk⟩ := C
  obtain ⟨⟨hP, hK⟩, hD⟩ := hPre
  have hS : va_S (moA o a) s.heap s.heap [] := va_S.rf
  have hl : lv_has ls 4 [(0, .ref (o)), (1, .int (x))] := hl
  obtain ⟨hT6, hC6, hN6, hS5⟩ := okM_b hok
  refine lv_aload_n hx hb dX4_passes_0 rfl (lv_at hl 0 rfl) ?_
  refine mo_g0 hx hb hts hown hK hP dX4_passes_1 ?_
  refine lv_iconst (v := 3) hx hb dX4_passes_4 (by decide) ?_
  refine lv_dup2_11 hx hb dX4_passes_5 rfl rfl ?_
  refine mo_r0 hx hb hK hP (3) rfl (by omega) (v := μ 0 3) rfl dX4_passes_6 ?_
  refine lv_iload_n hx hb dX4_passes_7 rfl (lv_at hl 1 rfl) ?_
  refine lv_iadd hx hb dX4_passes_8 ?_
  refine mo_w0 hx hb hK hP hD hS (3) rfl (by omega) dX4_passes_9 (fun H locs hP hS => ?_)
  refine lv_iconst (v := 0) hx hb dX4_passes_10 (by decide) ?_
  refine lv_istore_n (lv' := [(2, .int (0)), (0, .ref (o)), (1, .int (x))]) hx hb dX4_passes_11 rfl hl (by decide) rfl (fun ls hl => ?_)
  refine lv_iconst (v := 0) hx hb dX4_passes_12 (by decide) ?_
  refine lv_istore_n (lv' := [(3, .int (0)), (2, .int (0)), (0, .ref (o)), (1, .int (x))]) hx hb dX4_passes_13 rfl hl (by decide) rfl (fun ls hl => ?_)
  have K_70 : ∀ (H : Heap) (locs : List Loc), va_P D vwCl (moW cI o a ((g_X4_passes_14 μ x (mN μ + 1) 0 0 (shU μ 0 3 ((μ 0 3) + x))).2) hh) H → va_S (moA o a) s.heap H locs → ∀ ls, lv_has ls 4 [(0, .ref (o)), (1, .int (x)), (2, .int ((g_X4_passes_14 μ x (mN μ + 1) 0 0 (shU μ 0 3 ((μ 0 3) + x))).1))] → W p l e rm_X4_passes s m (([.ref (o), .int (x)] : List Value).toArray) below meth c H locs 0 0 (MQ below (moQ D cI o a hh (m_X4_passes μ x)) ([.ref (o), .int (x)] : List Value).toArray s 0 0 (moA o a)) (F0 m 70 ls []) := by
    intro H locs hP hS ls hl
    refine lv_iload_n hx hb dX4_passes_70 rfl (lv_at hl 2 rfl) ?_
    exact mo_finM hx hb hr hlk hK hP hS rfl dX4_passes_71
  have L_14 : ∀ (fu : Nat) (k : Nat) (x2 : Int32) (ω : Nat → Nat → Int32), mN μ - k < fu → k ≤ mN μ → okM ω → mN ω = mN μ → g_X4_passes_14 μ x fu k x2 ω = g_X4_passes_14 μ x (mN μ + 1) 0 0 (shU μ 0 3 ((μ 0 3) + x)) → ∀ (H : Heap) (locs : List Loc), va_P D vwCl (moW cI o a ω hh) H → va_S (moA o a) s.heap H locs → ∀ ls, lv_has ls 4 [(0, .ref (o)), (1, .int (x)), (3, .int (nI k)), (2, .int (x2))] → W p l e rm_X4_passes s m (([.ref (o), .int (x)] : List Value).toArray) below meth c H locs 0 0 (MQ below (moQ D cI o a hh (m_X4_passes μ x)) ([.ref (o), .int (x)] : List Value).toArray s 0 0 (moA o a)) (F0 m 14 ls []) := by
    intro fu
    induction fu with
    | zero => intro k x2 ω hm; exact absurd hm (Nat.not_lt_zero _)
    | succ fu ih =>
      intro k x2 ω hm hkN hok2 hn2 hg_14 H locs hP hS ls hl
      refine lv_iload_n hx hb dX4_passes_14 rfl (lv_at hl 2 rfl) ?_
      refine lv_aload_n hx hb dX4_passes_15 rfl (lv_at hl 0 rfl) ?_
      refine mo_g0 hx hb hts hown hK hP dX4_passes_16 ?_
      refine lv_iconst (v := 1) hx hb dX4_passes_19 (by decide) ?_
      refine mo_r0 hx hb hK hP (1) rfl (by omega) (v := ω 0 1) rfl dX4_passes_20 ?_
      refine lv_icmp_geN (k) (mN ω) hx hb rfl (show okN ω by first | with_reducible assumption | exact okM_1 (by with_reducible assumption)).1 (by omega) (by omega) (tgt := 70) dX4_passes_21 (by decide) (fun c_21 => ?_) (fun c_21 => ?_)
      · have ex : (x2, ω) = g_X4_passes_14 μ x (mN μ + 1) 0 0 (shU μ 0 3 ((μ 0 3) + x)) := ((br_p c_21 rfl) : (x2, ω) = g_X4_passes_14 μ x (fu + 1) k x2 ω).trans hg_14
        have ex0 : x2 = (g_X4_passes_14 μ x (mN μ + 1) 0 0 (shU μ 0 3 ((μ 0 3) + x))).1 := congrArg (fun z => z.1) ex
        have ex1 : ω = (g_X4_passes_14 μ x (mN μ + 1) 0 0 (shU μ 0 3 ((μ 0 3) + x))).2 := congrArg (fun z => z.2) ex
        exact K_70 _ _ (by rw [← ex1]; exact hP) hS ls (by rw [← ex0]; exact lv_sub hl [0, 1, 3] rfl)
      refine lv_aload_n hx hb dX4_passes_24 rfl (lv_at hl 0 rfl) ?_
      refine lv_iload_n hx hb dX4_passes_25 rfl (lv_at hl 2 rfl) ?_
      refine mo_call (rest := []) hx hb hml hown hts hK hP (c_X4_late l D cI o a ω hh (nI k) k rfl (by first | with_reducible assumption | omega)) (kV_X4_late hts ml_X4_102 ⟨(Nat.le_of_ble_eq_true rfl), (Nat.le_of_ble_eq_true rfl)⟩) rfl hl.1 rfl (Nat.le_of_ble_eq_true rfl) dX4_passes_26 (Nat.zero_le _) (Nat.zero_le _) ?_
      refine lv_aload_n hx hb dX4_passes_29 rfl (lv_at hl 0 rfl) ?_
      refine mo_g0 hx hb hts hown hK hP dX4_passes_30 ?_
      refine lv_bipush (v := 6) hx hb dX4_passes_33 (by decide) ?_
      refine mo_r0 hx hb hK hP (6) rfl (by omega) (v := ω 0 6) rfl dX4_passes_35 ?_
      refine lv_icmp_le (tgt := 64) hx hb dX4_passes_36 (by decide) (fun c_36 => ?_) (fun c_36 => ?_)
      · refine lv_iinc (v := nI (k + 1)) (lv' := [(3, .int (nI (k + 1))), (0, .ref (o)), (1, .int (x)), (2, .int (x2))]) hx hb dX4_passes_64 hl (k := 2) rfl (nI_c1 _) (by decide) rfl (fun ls hl => ?_)
        refine lv_goto (tgt := 14) hx hb dX4_passes_67 (by decide) ?_
        exact ih (k + 1) x2 ω (by omega) (by omega) (by first | exact hok2 | exact goes_ok (charges_ok hok2 hr9 (by decide)) (by decide)) (by first | exact hn2 | exact goes_n.trans ((charges_n hr9 (by decide)).trans hn2)) (((br_n c_21 (br_p c_36 rfl)) : g_X4_passes_14 μ x fu (k + 1) x2 ω = g_X4_passes_14 μ x (fu + 1) k x2 ω).trans hg_14) _ _ hP hS ls (lv_sub hl [1, 2, 0, 3] rfl)
      have hr8 := okM_r hok2 (k := k) (by omega) (late_1 (okM_6 hok2) c_36)
      have hr9 := hr8.2
      refine lv_aload_n hx hb dX4_passes_39 rfl (lv_at hl 0 rfl) ?_
      refine lv_aload_n hx hb dX4_passes_40 rfl (lv_at hl 0 rfl) ?_
      refine lv_iload_n hx hb dX4_passes_41 rfl (lv_at hl 2 rfl) ?_
      refine lv_iconst (v := 4) hx hb dX4_passes_42 (by decide) ?_
      refine mo_call (rest := [.ref (o)]) hx hb hml hown hts hK hP (c_X4_of l D cI o a ω hh (nI k) k rfl 4 4 rfl (by first | with_reducible assumption | omega)) (kV_X4_of hts ml_X4_34 ⟨(Nat.le_of_ble_eq_true rfl), (Nat.le_of_ble_eq_true rfl)⟩) rfl hl.1 rfl (Nat.le_of_ble_eq_true rfl) dX4_passes_43 (Nat.zero_le _) (Nat.zero_le _) ?_
      refine lv_iconst (v := 3) hx hb dX4_passes_46 (by decide) ?_
      refine lv_aload_n hx hb dX4_passes_47 rfl (lv_at hl 0 rfl) ?_
      refine lv_iload_n hx hb dX4_passes_48 rfl (lv_at hl 2 rfl) ?_
      refine mo_call (rest := [.int (3), .int ((f_X4_of ω k 4)), .ref (o)]) hx hb hml hown hts hK hP (c_X4_worthOf l D cI o a ω hh (nI k) k rfl (by with_reducible assumption) (by first | with_reducible assumption | omega)) (kV_X4_worthOf hts ml_X4_99 ⟨(Nat.le_of_ble_eq_true rfl), (Nat.le_of_ble_eq_true rfl)⟩) rfl hl.1 rfl (Nat.le_of_ble_eq_true rfl) dX4_passes_49 (Nat.zero_le _) (Nat.zero_le _) ?_
      refine mo_callV (rest := []) hx hb hml hown hts hK hP hD hS (c_X4_charges l D cI o a ω hh (f_X4_of ω k 4) (mr ω k) hr8.1 3 3 rfl (f_X4_worthOf ω k) (by first | with_reducible assumption | omega) (by first | with_reducible assumption | omega)) (kV_X4_charges hts ml_X4_152 ⟨(Nat.le_of_ble_eq_true rfl), (Nat.le_of_ble_eq_true rfl)⟩) rfl hl.1 rfl (Nat.le_of_ble_eq_true rfl) dX4_passes_52 (Nat.zero_le _) (Nat.zero_le _) (fun H locs hP hS => ?_)
      refine lv_aload_n hx hb dX4_passes_55 rfl (lv_at hl 0 rfl) ?_
      refine lv_iload_n hx hb dX4_passes_56 rfl (lv_at hl 2 rfl) ?_
      refine lv_iconst (v := 3) hx hb dX4_passes_57 (by decide) ?_
      refine mo_callV (rest := []) hx hb hml hown hts hK hP hD hS (c_X4_goes l D cI o a (s_X4_charges ω (mr ω k) 3 (f_X4_worthOf ω k)) hh (nI k) k rfl 3 (by first | with_reducible assumption | omega)) (kV_X4_goes hts ml_X4_134 ⟨(Nat.le_of_ble_eq_true rfl), (Nat.le_of_ble_eq_true rfl)⟩) rfl hl.1 rfl (Nat.le_of_ble_eq_true rfl) dX4_passes_58 (Nat.zero_le _) (Nat.zero_le _) (fun H locs hP hS => ?_)
      refine lv_iinc (v := x2 + 1) (lv' := [(2, .int (x2 + 1)), (0, .ref (o)), (1, .int (x)), (3, .int (nI k))]) hx hb dX4_passes_61 hl (k := 3) rfl rfl (by decide) rfl (fun ls hl => ?_)
      refine lv_iinc (v := nI (k + 1)) (lv' := [(3, .int (nI (k + 1))), (2, .int (x2 + 1)), (0, .ref (o)), (1, .int (x))]) hx hb dX4_passes_64 hl (k := 3) rfl (nI_c1 _) (by decide) rfl (fun ls hl => ?_)
      refine lv_goto (tgt := 14) hx hb dX4_passes_67 (by decide) ?_
      exact ih (k + 1) (x2 + 1) (s_X4_goes (s_X4_charges ω (mr ω k) 3 (f_X4_worthOf ω k)) k 3) (by omega) (by omega) (by first | exact hok2 | exact goes_ok (charges_ok hok2 hr9 (by decide)) (by decide)) (by first | exact hn2 | exact goes_n.trans ((charges_n hr9 (by decide)).trans hn2)) (((br_n c_21 (br_n c_36 rfl)) : g_X4_passes_14 μ x fu (k + 1) (x2 + 1) (s_X4_goes (s_X4_charges ω (mr ω k) 3 (f_X4_worthOf ω k)) k 3) = g_X4_passes_14 μ x (fu + 1) k x2 ω).trans hg_14) _ _ hP hS ls (lv_sub hl [2, 3, 0, 1] rfl)
  exact L_14 (mN μ + 1) 0 0 (shU μ 0 3 ((μ 0 3) + x)) (by omega) (by omega) (day_ok hok _) rfl rfl _ _ hP hS ls (lv_sub hl [2, 3, 0, 1] rfl)
theorem kV_X4_passes {R : Room} {s : State} {args : Array Value} {own : String} {idx : Nat} {c0 : Cond} (hts : ∀ w ∈ c0 :: W0, w.before args s = true) (hl : Cond.methodLink own idx yX4_passes ∈ W0) (hR : rm_X4_passes.frames + 1 ≤ R.frames ∧ 8 + (4 + 11) + rm_X4_passes.locals ≤ R.locals) : CallW R s args own RX4 idx yX4_passes cX4_passes 4 (some .int) (Cond.code yX4_passes cX4_passes 4 (some .int) :: W0) rm_X4_passes 0 0 1 := cwV 1 hts (gdV hl mi_yX4_passes ms_yX4_passes mini_X4 mc_yX4_passes) rfl rfl rfl (by decide +kernel) hR

/-! X4.customerNow -/
def g_X4_customerNow_5 (μ : Nat → Nat → Int32) (cu : Nat) (y : Int32) : Nat → (Nat) → (Int32) → Int32
  | 0, k, x3 => x3
  | fu + 1, k, x3 => (if mN μ ≤ k then x3 else (if (f_X4_is μ k 1) = 0 then g_X4_customerNow_5 μ cu y fu (k + 1) (x3 + 0) else (if (f_X4_of μ k 4) = (nI cu) then (if y = 0 then g_X4_customerNow_5 μ cu y fu (k + 1) (x3 + 1) else (if (f_X4_late μ k) ≤ 0 then g_X4_customerNow_5 μ cu y fu (k + 1) (x3 + 0) else g_X4_customerNow_5 μ cu y fu (k + 1) (x3 + 1))) else g_X4_customerNow_5 μ cu y fu (k + 1) (x3 + 0))))
def f_X4_customerNow (μ : Nat → Nat → Int32) (cu : Nat) (y : Int32) : Int32 := (if y = 2 then μ 0 (15 + cu) else (g_X4_customerNow_5 μ cu y (mN μ + 1) 0 0))
abbrev rm_X4_customerNow : Room := { frames := 3, cells := 0, slots := 0, locals := 65 }
set_option maxRecDepth 100000 in
theorem c_X4_customerNow (l : Launch) (D : va_G) (cI : ClassId) (o : Nat) (a : Nat → Nat) (μ : Nat → Nat → Int32) (hh : Int64) (x : Int32) (cu : Nat) (hx : x = nI cu) (y : Int32) (hok : okM μ) (hcu : cu < 8) :
    Met l yX4_customerNow (Cond.code yX4_customerNow cX4_customerNow 5 (some .int) :: W0) rm_X4_customerNow (va_Pc [.ref o, .int x, .int y] (moP D cI o a μ hh)) (vp_Si (fun r => r = f_X4_customerNow μ cu y)) 0 0 (fun _ => False) := by
  subst hx
  refine st_gen (cc := cX4_customerNow) (maxL := 5) (ret := some .int) (own := RX4) (by decide) rfl (Nat.le_of_ble_eq_true rfl) ?_
  intro p e s m below meth c ls C hPre hl
  obtain ⟨hx, hb, hr, hml, hown, hts, hlk⟩ := C
  obtain ⟨hP, hK⟩ := hPre
  have hl : lv_has ls 5 [(0, .ref (o)), (1, .int (nI cu)), (2, .int (y))] := hl
  obtain ⟨hT6, hC6, hN6, hS5⟩ := okM_b hok
  refine lv_iconst (v := 0) hx hb dX4_customerNow_0 (by decide) ?_
  refine lv_istore_n (lv' := [(3, .int (0)), (0, .ref (o)), (1, .int (nI cu)), (2, .int (y))]) hx hb dX4_customerNow_1 rfl hl (by decide) rfl (fun ls hl => ?_)
  refine lv_iconst (v := 0) hx hb dX4_customerNow_2 (by decide) ?_
  refine lv_istore (lv' := [(4, .int (0)), (3, .int (0)), (0, .ref (o)), (1, .int (nI cu)), (2, .int (y))]) hx hb dX4_customerNow_3 hl (by decide) rfl (fun ls hl => ?_)
  have K_64 : ∀ ls, lv_has ls 5 [(0, .ref (o)), (1, .int (nI cu)), (2, .int (y)), (3, .int ((g_X4_customerNow_5 μ cu y (mN μ + 1) 0 0)))] → W p l e rm_X4_customerNow s m (([.ref (o), .int (nI cu), .int (y)] : List Value).toArray) below meth c s.heap [] 0 0 (MQ below (vp_Si (fun r => r = f_X4_customerNow μ cu y)) ([.ref (o), .int (nI cu), .int (y)] : List Value).toArray s 0 0 (fun _ => False)) (F0 m 64 ls []) := by
    intro ls hl
    refine lv_iload_n hx hb dX4_customerNow_64 rfl (lv_at hl 2 rfl) ?_
    refine lv_iconst (v := 2) hx hb dX4_customerNow_65 (by decide) ?_
    refine lv_icmp_ne (tgt := 81) hx hb dX4_customerNow_66 (by decide) (fun c_66 => ?_) (fun c_66 => ?_)
    · refine lv_iload_n hx hb dX4_customerNow_81 rfl (lv_at hl 3 rfl) ?_
      exact fin_i hx hb hr hlk (br_n c_66 rfl) dX4_customerNow_82
    refine lv_aload_n hx hb dX4_customerNow_69 rfl (lv_at hl 0 rfl) ?_
    refine mo_g0 hx hb hts hown hK hP dX4_customerNow_70 ?_
    refine lv_bipush (v := 15) hx hb dX4_customerNow_73 (by decide) ?_
    refine lv_iload_n hx hb dX4_customerNow_75 rfl (lv_at hl 1 rfl) ?_
    refine lv_iaddN (x := 15) (y := cu) hx hb rfl rfl dX4_customerNow_76 ?_
    refine mo_r0 hx hb hK hP ((15 + cu)) rfl (by omega) (v := μ 0 (15 + cu)) rfl dX4_customerNow_77 ?_
    refine lv_goto (tgt := 82) hx hb dX4_customerNow_78 (by decide) ?_
    exact fin_i hx hb hr hlk (br_p c_66 rfl) dX4_customerNow_82
  have L_5 : ∀ (fu : Nat) (k : Nat) (x3 : Int32), mN μ - k < fu → k ≤ mN μ → g_X4_customerNow_5 μ cu y fu k x3 = g_X4_customerNow_5 μ cu y (mN μ + 1) 0 0 → ∀ ls, lv_has ls 5 [(0, .ref (o)), (1, .int (nI cu)), (2, .int (y)), (4, .int (nI k)), (3, .int (x3))] → W p l e rm_X4_customerNow s m (([.ref (o), .int (nI cu), .int (y)] : List Value).toArray) below meth c s.heap [] 0 0 (MQ below (vp_Si (fun r => r = f_X4_customerNow μ cu y)) ([.ref (o), .int (nI cu), .int (y)] : List Value).toArray s 0 0 (fun _ => False)) (F0 m 5 ls []) := by
    intro fu
    induction fu with
    | zero => intro k x3 hm; exact absurd hm (Nat.not_lt_zero _)
    | succ fu ih =>
      intro k x3 hm hkN hg_5 ls hl
      refine lv_iload hx hb dX4_customerNow_5 (lv_at hl 3 rfl) ?_
      refine lv_aload_n hx hb dX4_customerNow_7 rfl (lv_at hl 0 rfl) ?_
      refine mo_g0 hx hb hts hown hK hP dX4_customerNow_8 ?_
      refine lv_iconst (v := 1) hx hb dX4_customerNow_11 (by decide) ?_
      refine mo_r0 hx hb hK hP (1) rfl (by omega) (v := μ 0 1) rfl dX4_customerNow_12 ?_
      refine lv_icmp_geN (k) (mN μ) hx hb rfl (show okN μ by first | with_reducible assumption | exact okM_1 (by with_reducible assumption)).1 (by omega) (by omega) (tgt := 64) dX4_customerNow_13 (by decide) (fun c_13 => ?_) (fun c_13 => ?_)
      · have ex : x3 = g_X4_customerNow_5 μ cu y (mN μ + 1) 0 0 := ((br_p c_13 rfl) : x3 = g_X4_customerNow_5 μ cu y (fu + 1) k x3).trans hg_5
        exact K_64 ls (by rw [← ex]; exact lv_sub hl [0, 1, 2, 4] rfl)
      refine lv_iload_n hx hb dX4_customerNow_16 rfl (lv_at hl 4 rfl) ?_
      refine lv_aload_n hx hb dX4_customerNow_17 rfl (lv_at hl 0 rfl) ?_
      refine lv_iload hx hb dX4_customerNow_18 (lv_at hl 3 rfl) ?_
      refine lv_iconst (v := 1) hx hb dX4_customerNow_20 (by decide) ?_
      refine mo_call (rest := [.int (x3)]) hx hb hml hown hts hK hP (c_X4_is l D cI o a μ hh (nI k) k rfl 1 (by first | with_reducible assumption | omega)) (kV_X4_is hts ml_X4_55 ⟨(Nat.le_of_ble_eq_true rfl), (Nat.le_of_ble_eq_true rfl)⟩) rfl hl.1 rfl (Nat.le_of_ble_eq_true rfl) dX4_customerNow_21 (Nat.zero_le _) (Nat.zero_le _) ?_
      refine lv_if_eq (tgt := 55) hx hb dX4_customerNow_24 (by decide) (fun c_24 => ?_) (fun c_24 => ?_)
      · refine lv_iconst (v := 0) hx hb dX4_customerNow_55 (by decide) ?_
        refine lv_iadd hx hb dX4_customerNow_56 ?_
        refine lv_istore_n (lv' := [(3, .int (x3 + 0)), (0, .ref (o)), (1, .int (nI cu)), (2, .int (y)), (4, .int (nI k))]) hx hb dX4_customerNow_57 rfl hl (by decide) rfl (fun ls hl => ?_)
        refine lv_iinc (v := nI (k + 1)) (lv' := [(4, .int (nI (k + 1))), (3, .int (x3 + 0)), (0, .ref (o)), (1, .int (nI cu)), (2, .int (y))]) hx hb dX4_customerNow_58 hl (k := 4) rfl (nI_c1 _) (by decide) rfl (fun ls hl => ?_)
        refine lv_goto (tgt := 5) hx hb dX4_customerNow_61 (by decide) ?_
        exact ih (k + 1) (x3 + 0) (by omega) (by omega) (((br_n c_13 (br_p c_24 rfl)) : g_X4_customerNow_5 μ cu y fu (k + 1) (x3 + 0) = g_X4_customerNow_5 μ cu y (fu + 1) k x3).trans hg_5) ls (lv_sub hl [2, 3, 4, 0, 1] rfl)
      refine lv_aload_n hx hb dX4_customerNow_27 rfl (lv_at hl 0 rfl) ?_
      refine lv_iload hx hb dX4_customerNow_28 (lv_at hl 3 rfl) ?_
      refine lv_iconst (v := 4) hx hb dX4_customerNow_30 (by decide) ?_
      refine mo_call (rest := [.int (x3)]) hx hb hml hown hts hK hP (c_X4_of l D cI o a μ hh (nI k) k rfl 4 4 rfl (by first | with_reducible assumption | omega)) (kV_X4_of hts ml_X4_34 ⟨(Nat.le_of_ble_eq_true rfl), (Nat.le_of_ble_eq_true rfl)⟩) rfl hl.1 rfl (Nat.le_of_ble_eq_true rfl) dX4_customerNow_31 (Nat.zero_le _) (Nat.zero_le _) ?_
      refine lv_iload_n hx hb dX4_customerNow_34 rfl (lv_at hl 1 rfl) ?_
      refine lv_icmp_ne (tgt := 55) hx hb dX4_customerNow_35 (by decide) (fun c_35 => ?_) (fun c_35 => ?_)
      · refine lv_iconst (v := 0) hx hb dX4_customerNow_55 (by decide) ?_
        refine lv_iadd hx hb dX4_customerNow_56 ?_
        refine lv_istore_n (lv' := [(3, .int (x3 + 0)), (0, .ref (o)), (1, .int (nI cu)), (2, .int (y)), (4, .int (nI k))]) hx hb dX4_customerNow_57 rfl hl (by decide) rfl (fun ls hl => ?_)
        refine lv_iinc (v := nI (k + 1)) (lv' := [(4, .int (nI (k + 1))), (3, .int (x3 + 0)), (0, .ref (o)), (1, .int (nI cu)), (2, .int (y))]) hx hb dX4_customerNow_58 hl (k := 4) rfl (nI_c1 _) (by decide) rfl (fun ls hl => ?_)
        refine lv_goto (tgt := 5) hx hb dX4_customerNow_61 (by decide) ?_
        exact ih (k + 1) (x3 + 0) (by omega) (by omega) (((br_n c_13 (br_n c_24 (br_n c_35 rfl))) : g_X4_customerNow_5 μ cu y fu (k + 1) (x3 + 0) = g_X4_customerNow_5 μ cu y (fu + 1) k x3).trans hg_5) ls (lv_sub hl [2, 3, 4, 0, 1] rfl)
      refine lv_iload_n hx hb dX4_customerNow_38 rfl (lv_at hl 2 rfl) ?_
      refine lv_if_eq (tgt := 51) hx hb dX4_customerNow_39 (by decide) (fun c_39 => ?_) (fun c_39 => ?_)
      · refine lv_iconst (v := 1) hx hb dX4_customerNow_51 (by decide) ?_
        refine lv_goto (tgt := 56) hx hb dX4_customerNow_52 (by decide) ?_
        refine lv_iadd hx hb dX4_customerNow_56 ?_
        refine lv_istore_n (lv' := [(3, .int (x3 + 1)), (0, .ref (o)), (1, .int (nI cu)), (2, .int (y)), (4, .int (nI k))]) hx hb dX4_customerNow_57 rfl hl (by decide) rfl (fun ls hl => ?_)
        refine lv_iinc (v := nI (k + 1)) (lv' := [(4, .int (nI (k + 1))), (3, .int (x3 + 1)), (0, .ref (o)), (1, .int (nI cu)), (2, .int (y))]) hx hb dX4_customerNow_58 hl (k := 4) rfl (nI_c1 _) (by decide) rfl (fun ls hl => ?_)
        refine lv_goto (tgt := 5) hx hb dX4_customerNow_61 (by decide) ?_
        exact ih (k + 1) (x3 + 1) (by omega) (by omega) (((br_n c_13 (br_n c_24 (br_p c_35 (br_p c_39 rfl)))) : g_X4_customerNow_5 μ cu y fu (k + 1) (x3 + 1) = g_X4_customerNow_5 μ cu y (fu + 1) k x3).trans hg_5) ls (lv_sub hl [2, 3, 4, 0, 1] rfl)
      refine lv_aload_n hx hb dX4_customerNow_42 rfl (lv_at hl 0 rfl) ?_
      refine lv_iload hx hb dX4_customerNow_43 (lv_at hl 3 rfl) ?_
      refine mo_call (rest := [.int (x3)]) hx hb hml hown hts hK hP (c_X4_late l D cI o a μ hh (nI k) k rfl (by first | with_reducible assumption | omega)) (kV_X4_late hts ml_X4_102 ⟨(Nat.le_of_ble_eq_true rfl), (Nat.le_of_ble_eq_true rfl)⟩) rfl hl.1 rfl (Nat.le_of_ble_eq_true rfl) dX4_customerNow_45 (Nat.zero_le _) (Nat.zero_le _) ?_
      refine lv_if_le (tgt := 55) hx hb dX4_customerNow_48 (by decide) (fun c_48 => ?_) (fun c_48 => ?_)
      · refine lv_iconst (v := 0) hx hb dX4_customerNow_55 (by decide) ?_
        refine lv_iadd hx hb dX4_customerNow_56 ?_
        refine lv_istore_n (lv' := [(3, .int (x3 + 0)), (0, .ref (o)), (1, .int (nI cu)), (2, .int (y)), (4, .int (nI k))]) hx hb dX4_customerNow_57 rfl hl (by decide) rfl (fun ls hl => ?_)
        refine lv_iinc (v := nI (k + 1)) (lv' := [(4, .int (nI (k + 1))), (3, .int (x3 + 0)), (0, .ref (o)), (1, .int (nI cu)), (2, .int (y))]) hx hb dX4_customerNow_58 hl (k := 4) rfl (nI_c1 _) (by decide) rfl (fun ls hl => ?_)
        refine lv_goto (tgt := 5) hx hb dX4_customerNow_61 (by decide) ?_
        exact ih (k + 1) (x3 + 0) (by omega) (by omega) (((br_n c_13 (br_n c_24 (br_p c_35 (br_n c_39 (br_p c_48 rfl))))) : g_X4_customerNow_5 μ cu y fu (k + 1) (x3 + 0) = g_X4_customerNow_5 μ cu y (fu + 1) k x3).trans hg_5) ls (lv_sub hl [2, 3, 4, 0, 1] rfl)
      refine lv_iconst (v := 1) hx hb dX4_customerNow_51 (by decide) ?_
      refine lv_goto (tgt := 56) hx hb dX4_customerNow_52 (by decide) ?_
      refine lv_iadd hx hb dX4_customerNow_56 ?_
      refine lv_istore_n (lv' := [(3, .int (x3 + 1)), (0, .ref (o)), (1, .int (nI cu)), (2, .int (y)), (4, .int (nI k))]) hx hb dX4_customerNow_57 rfl hl (by decide) rfl (fun ls hl => ?_)
      refine lv_iinc (v := nI (k + 1)) (lv' := [(4, .int (nI (k + 1))), (3, .int (x3 + 1)), (0, .ref (o)), (1, .int (nI cu)), (2, .int (y))]) hx hb dX4_customerNow_58 hl (k := 4) rfl (nI_c1 _) (by decide) rfl (fun ls hl => ?_)
      refine lv_goto (tgt := 5) hx hb dX4_customerNow_61 (by decide) ?_
      exact ih (k + 1) (x3 + 1) (by omega) (by omega) (((br_n c_13 (br_n c_24 (br_p c_35 (br_n c_39 (br_n c_48 rfl))))) : g_X4_customerNow_5 μ cu y fu (k + 1) (x3 + 1) = g_X4_customerNow_5 μ cu y (fu + 1) k x3).trans hg_5) ls (lv_sub hl [2, 3, 4, 0, 1] rfl)
  exact L_5 (mN μ + 1) 0 0 (by omega) (by omega) rfl ls (lv_sub hl [2, 3, 4, 0, 1] rfl)
theorem kV_X4_customerNow {R : Room} {s : State} {args : Array Value} {own : String} {idx : Nat} {c0 : Cond} (hts : ∀ w ∈ c0 :: W0, w.before args s = true) (hl : Cond.methodLink own idx yX4_customerNow ∈ W0) (hR : rm_X4_customerNow.frames + 1 ≤ R.frames ∧ 8 + (5 + 11) + rm_X4_customerNow.locals ≤ R.locals) : CallW R s args own RX4 idx yX4_customerNow cX4_customerNow 5 (some .int) (Cond.code yX4_customerNow cX4_customerNow 5 (some .int) :: W0) rm_X4_customerNow 0 0 2 := cwV 2 hts (gdV hl mi_yX4_customerNow ms_yX4_customerNow mini_X4 mc_yX4_customerNow) rfl rfl rfl (by decide +kernel) hR

/-! X4.customer -/
def f_X4_customer (μ : Nat → Nat → Int32) (x : Int32) (y : Int32) : Int32 := (if (f_X4_isCustomer x) = 0 then (-2) else (if (f_X4_in y 0 2) = 0 then (-3) else (f_X4_customerNow μ (tn x) y)))
abbrev rm_X4_customer : Room := { frames := 4, cells := 0, slots := 0, locals := 89 }
set_option maxRecDepth 100000 in
theorem c_X4_customer (l : Launch) (D : va_G) (cI : ClassId) (o : Nat) (a : Nat → Nat) (μ : Nat → Nat → Int32) (hh : Int64) (x : Int32) (y : Int32) (hok : okM μ) :
    Met l yX4_customer (Cond.code yX4_customer cX4_customer 3 (some .int) :: W0) rm_X4_customer (va_Pc [.ref o, .int x, .int y] (moP D cI o a μ hh)) (vp_Si (fun r => r = f_X4_customer μ x y)) 0 0 (fun _ => False) := by
  refine st_gen (cc := cX4_customer) (maxL := 3) (ret := some .int) (own := RX4) (by decide) rfl (Nat.le_of_ble_eq_true rfl) ?_
  intro p e s m below meth c ls C hPre hl
  obtain ⟨hx, hb, hr, hml, hown, hts, hlk⟩ := C
  obtain ⟨hP, hK⟩ := hPre
  have hl : lv_has ls 3 [(0, .ref (o)), (1, .int (x)), (2, .int (y))] := hl
  obtain ⟨hT6, hC6, hN6, hS5⟩ := okM_b hok
  refine lv_iload_n hx hb dX4_customer_0 rfl (lv_at hl 1 rfl) ?_
  refine cl_S (rest := []) hx hb hml hown hts (c_X4_isCustomer l x) (kS_X4_isCustomer hts ml_X4_143 ⟨(Nat.le_of_ble_eq_true rfl), (Nat.le_of_ble_eq_true rfl)⟩) rfl hl.1 rfl (Nat.le_of_ble_eq_true rfl) dX4_customer_1 (Nat.zero_le _) (Nat.zero_le _) ?_
  refine lv_if_ne (tgt := 10) hx hb dX4_customer_4 (by decide) (fun c_4 => ?_) (fun c_4 => ?_)
  · have v_4 := isCustomer_okm c_4
    have vb_4 := v_4.1
    refine lv_iload_n hx hb dX4_customer_10 rfl (lv_at hl 2 rfl) ?_
    refine lv_iconst (v := 0) hx hb dX4_customer_11 (by decide) ?_
    refine lv_iconst (v := 2) hx hb dX4_customer_12 (by decide) ?_
    refine cl_S (rest := []) hx hb hml hown hts (c_X4_in l y 0 2) (kS_X4_in hts ml_X4_30 ⟨(Nat.le_of_ble_eq_true rfl), (Nat.le_of_ble_eq_true rfl)⟩) rfl hl.1 rfl (Nat.le_of_ble_eq_true rfl) dX4_customer_13 (Nat.zero_le _) (Nat.zero_le _) ?_
    refine lv_if_eq (tgt := 28) hx hb dX4_customer_16 (by decide) (fun c_16 => ?_) (fun c_16 => ?_)
    · refine lv_bipush (v := (-3)) hx hb dX4_customer_28 (by decide) ?_
      exact fin_i hx hb hr hlk (br_n c_4 (br_p c_16 rfl)) dX4_customer_30
    have v_16 := inN 2 c_16 (by decide) rfl (by decide)
    have vb_16 := v_16.1
    refine lv_aload_n hx hb dX4_customer_19 rfl (lv_at hl 0 rfl) ?_
    refine lv_iload_n hx hb dX4_customer_20 rfl (lv_at hl 1 rfl) ?_
    refine lv_iload_n hx hb dX4_customer_21 rfl (lv_at hl 2 rfl) ?_
    refine mo_call (rest := []) hx hb hml hown hts hK hP (c_X4_customerNow l D cI o a μ hh x (tn x) v_4.2 y (by with_reducible assumption) (by first | with_reducible assumption | omega)) (kV_X4_customerNow hts ml_X4_180 ⟨(Nat.le_of_ble_eq_true rfl), (Nat.le_of_ble_eq_true rfl)⟩) rfl hl.1 rfl (Nat.le_of_ble_eq_true rfl) dX4_customer_22 (Nat.zero_le _) (Nat.zero_le _) ?_
    refine lv_goto (tgt := 30) hx hb dX4_customer_25 (by decide) ?_
    exact fin_i hx hb hr hlk (br_n c_4 (br_n c_16 rfl)) dX4_customer_30
  refine lv_bipush (v := (-2)) hx hb dX4_customer_7 (by decide) ?_
  exact fin_i hx hb hr hlk (br_p c_4 rfl) dX4_customer_9
theorem kV_X4_customer {R : Room} {s : State} {args : Array Value} {own : String} {idx : Nat} {c0 : Cond} (hts : ∀ w ∈ c0 :: W0, w.before args s = true) (hl : Cond.methodLink own idx yX4_customer ∈ W0) (hR : rm_X4_customer.frames + 1 ≤ R.frames ∧ 8 + (3 + 11) + rm_X4_customer.locals ≤ R.locals) : CallW R s args own RX4 idx yX4_customer cX4_customer 3 (some .int) (Cond.code yX4_customer cX4_customer 3 (some .int) :: W0) rm_X4_customer 0 0 2 := cwV 2 hts (gdV hl mi_yX4_customer ms_yX4_customer mini_X4 mc_yX4_customer) rfl rfl rfl (by decide +kernel) hR

/-! X4.lostIn -/
def g_X4_lostIn_18 (μ : Nat → Nat → Int32) (x : Int32) : Nat → (Nat) → (Int32) → Int32
  | 0, k, x2 => x2
  | fu + 1, k, x2 => (if mN μ ≤ k then x2 else (if (f_X4_is μ k 1) = 0 then g_X4_lostIn_18 μ x fu (k + 1) (x2 + 0) else (if (((μ 0 3) + x) - (f_X4_of μ k 5)) ≤ (μ 0 6) then g_X4_lostIn_18 μ x fu (k + 1) (x2 + 0) else g_X4_lostIn_18 μ x fu (k + 1) (x2 + 1))))
def f_X4_lostIn (μ : Nat → Nat → Int32) (x : Int32) : Int32 := (if (f_X4_in x 1 400) = 0 then (-3) else (g_X4_lostIn_18 μ x (mN μ + 1) 0 0))
abbrev rm_X4_lostIn : Room := { frames := 2, cells := 0, slots := 0, locals := 44 }
set_option maxRecDepth 100000 in
theorem c_X4_lostIn (l : Launch) (D : va_G) (cI : ClassId) (o : Nat) (a : Nat → Nat) (μ : Nat → Nat → Int32) (hh : Int64) (x : Int32) (hok : okM μ) :
    Met l yX4_lostIn (Cond.code yX4_lostIn cX4_lostIn 4 (some .int) :: W0) rm_X4_lostIn (va_Pc [.ref o, .int x] (moP D cI o a μ hh)) (vp_Si (fun r => r = f_X4_lostIn μ x)) 0 0 (fun _ => False) := by
  refine st_gen (cc := cX4_lostIn) (maxL := 4) (ret := some .int) (own := RX4) (by decide) rfl (Nat.le_of_ble_eq_true rfl) ?_
  intro p e s m below meth c ls C hPre hl
  obtain ⟨hx, hb, hr, hml, hown, hts, hlk⟩ := C
  obtain ⟨hP, hK⟩ := hPre
  have hl : lv_has ls 4 [(0, .ref (o)), (1, .int (x))] := hl
  obtain ⟨hT6, hC6, hN6, hS5⟩ := okM_b hok
  refine lv_iload_n hx hb dX4_lostIn_0 rfl (lv_at hl 1 rfl) ?_
  refine lv_iconst (v := 1) hx hb dX4_lostIn_1 (by decide) ?_
  refine lv_sipush (v := 400) hx hb dX4_lostIn_2 (by decide) ?_
  refine cl_S (rest := []) hx hb hml hown hts (c_X4_in l x 1 400) (kS_X4_in hts ml_X4_30 ⟨(Nat.le_of_ble_eq_true rfl), (Nat.le_of_ble_eq_true rfl)⟩) rfl hl.1 rfl (Nat.le_of_ble_eq_true rfl) dX4_lostIn_5 (Nat.zero_le _) (Nat.zero_le _) ?_
  refine lv_if_ne (tgt := 14) hx hb dX4_lostIn_8 (by decide) (fun c_8 => ?_) (fun c_8 => ?_)
  · have v_8 := inN 400 c_8 (by decide) rfl (by decide)
    have vb_8 := v_8.1
    refine lv_iconst (v := 0) hx hb dX4_lostIn_14 (by decide) ?_
    refine lv_istore_n (lv' := [(2, .int (0)), (0, .ref (o)), (1, .int (x))]) hx hb dX4_lostIn_15 rfl hl (by decide) rfl (fun ls hl => ?_)
    refine lv_iconst (v := 0) hx hb dX4_lostIn_16 (by decide) ?_
    refine lv_istore_n (lv' := [(3, .int (0)), (2, .int (0)), (0, .ref (o)), (1, .int (x))]) hx hb dX4_lostIn_17 rfl hl (by decide) rfl (fun ls hl => ?_)
    have K_76 : ∀ ls, lv_has ls 4 [(0, .ref (o)), (1, .int (x)), (2, .int ((g_X4_lostIn_18 μ x (mN μ + 1) 0 0)))] → W p l e rm_X4_lostIn s m (([.ref (o), .int (x)] : List Value).toArray) below meth c s.heap [] 0 0 (MQ below (vp_Si (fun r => r = f_X4_lostIn μ x)) ([.ref (o), .int (x)] : List Value).toArray s 0 0 (fun _ => False)) (F0 m 76 ls []) := by
      intro ls hl
      refine lv_iload_n hx hb dX4_lostIn_76 rfl (lv_at hl 2 rfl) ?_
      exact fin_i hx hb hr hlk (br_n c_8 rfl) dX4_lostIn_77
    have L_18 : ∀ (fu : Nat) (k : Nat) (x2 : Int32), mN μ - k < fu → k ≤ mN μ → g_X4_lostIn_18 μ x fu k x2 = g_X4_lostIn_18 μ x (mN μ + 1) 0 0 → ∀ ls, lv_has ls 4 [(0, .ref (o)), (1, .int (x)), (3, .int (nI k)), (2, .int (x2))] → W p l e rm_X4_lostIn s m (([.ref (o), .int (x)] : List Value).toArray) below meth c s.heap [] 0 0 (MQ below (vp_Si (fun r => r = f_X4_lostIn μ x)) ([.ref (o), .int (x)] : List Value).toArray s 0 0 (fun _ => False)) (F0 m 18 ls []) := by
      intro fu
      induction fu with
      | zero => intro k x2 hm; exact absurd hm (Nat.not_lt_zero _)
      | succ fu ih =>
        intro k x2 hm hkN hg_18 ls hl
        refine lv_iload_n hx hb dX4_lostIn_18 rfl (lv_at hl 2 rfl) ?_
        refine lv_aload_n hx hb dX4_lostIn_19 rfl (lv_at hl 0 rfl) ?_
        refine mo_g0 hx hb hts hown hK hP dX4_lostIn_20 ?_
        refine lv_iconst (v := 1) hx hb dX4_lostIn_23 (by decide) ?_
        refine mo_r0 hx hb hK hP (1) rfl (by omega) (v := μ 0 1) rfl dX4_lostIn_24 ?_
        refine lv_icmp_geN (k) (mN μ) hx hb rfl (show okN μ by first | with_reducible assumption | exact okM_1 (by with_reducible assumption)).1 (by omega) (by omega) (tgt := 76) dX4_lostIn_25 (by decide) (fun c_25 => ?_) (fun c_25 => ?_)
        · have ex : x2 = g_X4_lostIn_18 μ x (mN μ + 1) 0 0 := ((br_p c_25 rfl) : x2 = g_X4_lostIn_18 μ x (fu + 1) k x2).trans hg_18
          exact K_76 ls (by rw [← ex]; exact lv_sub hl [0, 1, 3] rfl)
        refine lv_iload_n hx hb dX4_lostIn_28 rfl (lv_at hl 3 rfl) ?_
        refine lv_aload_n hx hb dX4_lostIn_29 rfl (lv_at hl 0 rfl) ?_
        refine lv_iload_n hx hb dX4_lostIn_30 rfl (lv_at hl 2 rfl) ?_
        refine lv_iconst (v := 1) hx hb dX4_lostIn_31 (by decide) ?_
        refine mo_call (rest := [.int (x2)]) hx hb hml hown hts hK hP (c_X4_is l D cI o a μ hh (nI k) k rfl 1 (by first | with_reducible assumption | omega)) (kV_X4_is hts ml_X4_55 ⟨(Nat.le_of_ble_eq_true rfl), (Nat.le_of_ble_eq_true rfl)⟩) rfl hl.1 rfl (Nat.le_of_ble_eq_true rfl) dX4_lostIn_32 (Nat.zero_le _) (Nat.zero_le _) ?_
        refine lv_if_eq (tgt := 67) hx hb dX4_lostIn_35 (by decide) (fun c_35 => ?_) (fun c_35 => ?_)
        · refine lv_iconst (v := 0) hx hb dX4_lostIn_67 (by decide) ?_
          refine lv_iadd hx hb dX4_lostIn_68 ?_
          refine lv_istore_n (lv' := [(2, .int (x2 + 0)), (0, .ref (o)), (1, .int (x)), (3, .int (nI k))]) hx hb dX4_lostIn_69 rfl hl (by decide) rfl (fun ls hl => ?_)
          refine lv_iinc (v := nI (k + 1)) (lv' := [(3, .int (nI (k + 1))), (2, .int (x2 + 0)), (0, .ref (o)), (1, .int (x))]) hx hb dX4_lostIn_70 hl (k := 3) rfl (nI_c1 _) (by decide) rfl (fun ls hl => ?_)
          refine lv_goto (tgt := 18) hx hb dX4_lostIn_73 (by decide) ?_
          exact ih (k + 1) (x2 + 0) (by omega) (by omega) (((br_n c_25 (br_p c_35 rfl)) : g_X4_lostIn_18 μ x fu (k + 1) (x2 + 0) = g_X4_lostIn_18 μ x (fu + 1) k x2).trans hg_18) ls (lv_sub hl [2, 3, 0, 1] rfl)
        refine lv_aload_n hx hb dX4_lostIn_38 rfl (lv_at hl 0 rfl) ?_
        refine mo_g0 hx hb hts hown hK hP dX4_lostIn_39 ?_
        refine lv_iconst (v := 3) hx hb dX4_lostIn_42 (by decide) ?_
        refine mo_r0 hx hb hK hP (3) rfl (by omega) (v := μ 0 3) rfl dX4_lostIn_43 ?_
        refine lv_iload_n hx hb dX4_lostIn_44 rfl (lv_at hl 1 rfl) ?_
        refine lv_iadd hx hb dX4_lostIn_45 ?_
        refine lv_aload_n hx hb dX4_lostIn_46 rfl (lv_at hl 0 rfl) ?_
        refine lv_iload_n hx hb dX4_lostIn_47 rfl (lv_at hl 2 rfl) ?_
        refine lv_iconst (v := 5) hx hb dX4_lostIn_48 (by decide) ?_
        refine mo_call (rest := [.int ((μ 0 3) + x), .int (x2)]) hx hb hml hown hts hK hP (c_X4_of l D cI o a μ hh (nI k) k rfl 5 5 rfl (by first | with_reducible assumption | omega)) (kV_X4_of hts ml_X4_34 ⟨(Nat.le_of_ble_eq_true rfl), (Nat.le_of_ble_eq_true rfl)⟩) rfl hl.1 rfl (Nat.le_of_ble_eq_true rfl) dX4_lostIn_49 (Nat.zero_le _) (Nat.zero_le _) ?_
        refine lv_isub hx hb dX4_lostIn_52 ?_
        refine lv_aload_n hx hb dX4_lostIn_53 rfl (lv_at hl 0 rfl) ?_
        refine mo_g0 hx hb hts hown hK hP dX4_lostIn_54 ?_
        refine lv_bipush (v := 6) hx hb dX4_lostIn_57 (by decide) ?_
        refine mo_r0 hx hb hK hP (6) rfl (by omega) (v := μ 0 6) rfl dX4_lostIn_59 ?_
        refine lv_icmp_le (tgt := 67) hx hb dX4_lostIn_60 (by decide) (fun c_60 => ?_) (fun c_60 => ?_)
        · refine lv_iconst (v := 0) hx hb dX4_lostIn_67 (by decide) ?_
          refine lv_iadd hx hb dX4_lostIn_68 ?_
          refine lv_istore_n (lv' := [(2, .int (x2 + 0)), (0, .ref (o)), (1, .int (x)), (3, .int (nI k))]) hx hb dX4_lostIn_69 rfl hl (by decide) rfl (fun ls hl => ?_)
          refine lv_iinc (v := nI (k + 1)) (lv' := [(3, .int (nI (k + 1))), (2, .int (x2 + 0)), (0, .ref (o)), (1, .int (x))]) hx hb dX4_lostIn_70 hl (k := 3) rfl (nI_c1 _) (by decide) rfl (fun ls hl => ?_)
          refine lv_goto (tgt := 18) hx hb dX4_lostIn_73 (by decide) ?_
          exact ih (k + 1) (x2 + 0) (by omega) (by omega) (((br_n c_25 (br_n c_35 (br_p c_60 rfl))) : g_X4_lostIn_18 μ x fu (k + 1) (x2 + 0) = g_X4_lostIn_18 μ x (fu + 1) k x2).trans hg_18) ls (lv_sub hl [2, 3, 0, 1] rfl)
        refine lv_iconst (v := 1) hx hb dX4_lostIn_63 (by decide) ?_
        refine lv_goto (tgt := 68) hx hb dX4_lostIn_64 (by decide) ?_
        refine lv_iadd hx hb dX4_lostIn_68 ?_
        refine lv_istore_n (lv' := [(2, .int (x2 + 1)), (0, .ref (o)), (1, .int (x)), (3, .int (nI k))]) hx hb dX4_lostIn_69 rfl hl (by decide) rfl (fun ls hl => ?_)
        refine lv_iinc (v := nI (k + 1)) (lv' := [(3, .int (nI (k + 1))), (2, .int (x2 + 1)), (0, .ref (o)), (1, .int (x))]) hx hb dX4_lostIn_70 hl (k := 3) rfl (nI_c1 _) (by decide) rfl (fun ls hl => ?_)
        refine lv_goto (tgt := 18) hx hb dX4_lostIn_73 (by decide) ?_
        exact ih (k + 1) (x2 + 1) (by omega) (by omega) (((br_n c_25 (br_n c_35 (br_n c_60 rfl))) : g_X4_lostIn_18 μ x fu (k + 1) (x2 + 1) = g_X4_lostIn_18 μ x (fu + 1) k x2).trans hg_18) ls (lv_sub hl [2, 3, 0, 1] rfl)
    exact L_18 (mN μ + 1) 0 0 (by omega) (by omega) rfl ls (lv_sub hl [2, 3, 0, 1] rfl)
  refine lv_bipush (v := (-3)) hx hb dX4_lostIn_11 (by decide) ?_
  exact fin_i hx hb hr hlk (br_p c_8 rfl) dX4_lostIn_13
theorem kV_X4_lostIn {R : Room} {s : State} {args : Array Value} {own : String} {idx : Nat} {c0 : Cond} (hts : ∀ w ∈ c0 :: W0, w.before args s = true) (hl : Cond.methodLink own idx yX4_lostIn ∈ W0) (hR : rm_X4_lostIn.frames + 1 ≤ R.frames ∧ 8 + (4 + 11) + rm_X4_lostIn.locals ≤ R.locals) : CallW R s args own RX4 idx yX4_lostIn cX4_lostIn 4 (some .int) (Cond.code yX4_lostIn cX4_lostIn 4 (some .int) :: W0) rm_X4_lostIn 0 0 1 := cwV 1 hts (gdV hl mi_yX4_lostIn ms_yX4_lostIn mini_X4 mc_yX4_lostIn) rfl rfl rfl (by decide +kernel) hR

/-! X4.owned -/
def g_X4_owned_4 (μ : Nat → Nat → Int32) (x : Int32) : Nat → (Nat) → (Int32) → Int32
  | 0, k, x2 => x2
  | fu + 1, k, x2 => (if mN μ ≤ k then x2 else (if (f_X4_of μ k 0) = x then (if (f_X4_is μ k 2) = 0 then (if (f_X4_is μ k 3) = 0 then g_X4_owned_4 μ x fu (k + 1) (x2 + (f_X4_worthOf μ k)) else g_X4_owned_4 μ x fu (k + 1) (x2 + 0)) else g_X4_owned_4 μ x fu (k + 1) (x2 + 0)) else g_X4_owned_4 μ x fu (k + 1) (x2 + 0)))
def f_X4_owned (μ : Nat → Nat → Int32) (x : Int32) : Int32 := (g_X4_owned_4 μ x (mN μ + 1) 0 0)
abbrev rm_X4_owned : Room := { frames := 3, cells := 0, slots := 0, locals := 67 }
set_option maxRecDepth 100000 in
theorem c_X4_owned (l : Launch) (D : va_G) (cI : ClassId) (o : Nat) (a : Nat → Nat) (μ : Nat → Nat → Int32) (hh : Int64) (x : Int32) (hok : okM μ) :
    Met l yX4_owned (Cond.code yX4_owned cX4_owned 4 (some .int) :: W0) rm_X4_owned (va_Pc [.ref o, .int x] (moP D cI o a μ hh)) (vp_Si (fun r => r = f_X4_owned μ x)) 0 0 (fun _ => False) := by
  refine st_gen (cc := cX4_owned) (maxL := 4) (ret := some .int) (own := RX4) (by decide) rfl (Nat.le_of_ble_eq_true rfl) ?_
  intro p e s m below meth c ls C hPre hl
  obtain ⟨hx, hb, hr, hml, hown, hts, hlk⟩ := C
  obtain ⟨hP, hK⟩ := hPre
  have hl : lv_has ls 4 [(0, .ref (o)), (1, .int (x))] := hl
  obtain ⟨hT6, hC6, hN6, hS5⟩ := okM_b hok
  refine lv_iconst (v := 0) hx hb dX4_owned_0 (by decide) ?_
  refine lv_istore_n (lv' := [(2, .int (0)), (0, .ref (o)), (1, .int (x))]) hx hb dX4_owned_1 rfl hl (by decide) rfl (fun ls hl => ?_)
  refine lv_iconst (v := 0) hx hb dX4_owned_2 (by decide) ?_
  refine lv_istore_n (lv' := [(3, .int (0)), (2, .int (0)), (0, .ref (o)), (1, .int (x))]) hx hb dX4_owned_3 rfl hl (by decide) rfl (fun ls hl => ?_)
  have K_60 : ∀ ls, lv_has ls 4 [(0, .ref (o)), (1, .int (x)), (2, .int ((g_X4_owned_4 μ x (mN μ + 1) 0 0)))] → W p l e rm_X4_owned s m (([.ref (o), .int (x)] : List Value).toArray) below meth c s.heap [] 0 0 (MQ below (vp_Si (fun r => r = f_X4_owned μ x)) ([.ref (o), .int (x)] : List Value).toArray s 0 0 (fun _ => False)) (F0 m 60 ls []) := by
    intro ls hl
    refine lv_iload_n hx hb dX4_owned_60 rfl (lv_at hl 2 rfl) ?_
    exact fin_i hx hb hr hlk rfl dX4_owned_61
  have L_4 : ∀ (fu : Nat) (k : Nat) (x2 : Int32), mN μ - k < fu → k ≤ mN μ → g_X4_owned_4 μ x fu k x2 = g_X4_owned_4 μ x (mN μ + 1) 0 0 → ∀ ls, lv_has ls 4 [(0, .ref (o)), (1, .int (x)), (3, .int (nI k)), (2, .int (x2))] → W p l e rm_X4_owned s m (([.ref (o), .int (x)] : List Value).toArray) below meth c s.heap [] 0 0 (MQ below (vp_Si (fun r => r = f_X4_owned μ x)) ([.ref (o), .int (x)] : List Value).toArray s 0 0 (fun _ => False)) (F0 m 4 ls []) := by
    intro fu
    induction fu with
    | zero => intro k x2 hm; exact absurd hm (Nat.not_lt_zero _)
    | succ fu ih =>
      intro k x2 hm hkN hg_4 ls hl
      refine lv_iload_n hx hb dX4_owned_4 rfl (lv_at hl 2 rfl) ?_
      refine lv_aload_n hx hb dX4_owned_5 rfl (lv_at hl 0 rfl) ?_
      refine mo_g0 hx hb hts hown hK hP dX4_owned_6 ?_
      refine lv_iconst (v := 1) hx hb dX4_owned_9 (by decide) ?_
      refine mo_r0 hx hb hK hP (1) rfl (by omega) (v := μ 0 1) rfl dX4_owned_10 ?_
      refine lv_icmp_geN (k) (mN μ) hx hb rfl (show okN μ by first | with_reducible assumption | exact okM_1 (by with_reducible assumption)).1 (by omega) (by omega) (tgt := 60) dX4_owned_11 (by decide) (fun c_11 => ?_) (fun c_11 => ?_)
      · have ex : x2 = g_X4_owned_4 μ x (mN μ + 1) 0 0 := ((br_p c_11 rfl) : x2 = g_X4_owned_4 μ x (fu + 1) k x2).trans hg_4
        exact K_60 ls (by rw [← ex]; exact lv_sub hl [0, 1, 3] rfl)
      refine lv_iload_n hx hb dX4_owned_14 rfl (lv_at hl 3 rfl) ?_
      refine lv_aload_n hx hb dX4_owned_15 rfl (lv_at hl 0 rfl) ?_
      refine lv_iload_n hx hb dX4_owned_16 rfl (lv_at hl 2 rfl) ?_
      refine lv_iconst (v := 0) hx hb dX4_owned_17 (by decide) ?_
      refine mo_call (rest := [.int (x2)]) hx hb hml hown hts hK hP (c_X4_of l D cI o a μ hh (nI k) k rfl 0 0 rfl (by first | with_reducible assumption | omega)) (kV_X4_of hts ml_X4_34 ⟨(Nat.le_of_ble_eq_true rfl), (Nat.le_of_ble_eq_true rfl)⟩) rfl hl.1 rfl (Nat.le_of_ble_eq_true rfl) dX4_owned_18 (Nat.zero_le _) (Nat.zero_le _) ?_
      refine lv_iload_n hx hb dX4_owned_21 rfl (lv_at hl 1 rfl) ?_
      refine lv_icmp_ne (tgt := 51) hx hb dX4_owned_22 (by decide) (fun c_22 => ?_) (fun c_22 => ?_)
      · refine lv_iconst (v := 0) hx hb dX4_owned_51 (by decide) ?_
        refine lv_iadd hx hb dX4_owned_52 ?_
        refine lv_istore_n (lv' := [(2, .int (x2 + 0)), (0, .ref (o)), (1, .int (x)), (3, .int (nI k))]) hx hb dX4_owned_53 rfl hl (by decide) rfl (fun ls hl => ?_)
        refine lv_iinc (v := nI (k + 1)) (lv' := [(3, .int (nI (k + 1))), (2, .int (x2 + 0)), (0, .ref (o)), (1, .int (x))]) hx hb dX4_owned_54 hl (k := 3) rfl (nI_c1 _) (by decide) rfl (fun ls hl => ?_)
        refine lv_goto (tgt := 4) hx hb dX4_owned_57 (by decide) ?_
        exact ih (k + 1) (x2 + 0) (by omega) (by omega) (((br_n c_11 (br_n c_22 rfl)) : g_X4_owned_4 μ x fu (k + 1) (x2 + 0) = g_X4_owned_4 μ x (fu + 1) k x2).trans hg_4) ls (lv_sub hl [2, 3, 0, 1] rfl)
      refine lv_aload_n hx hb dX4_owned_25 rfl (lv_at hl 0 rfl) ?_
      refine lv_iload_n hx hb dX4_owned_26 rfl (lv_at hl 2 rfl) ?_
      refine lv_iconst (v := 2) hx hb dX4_owned_27 (by decide) ?_
      refine mo_call (rest := [.int (x2)]) hx hb hml hown hts hK hP (c_X4_is l D cI o a μ hh (nI k) k rfl 2 (by first | with_reducible assumption | omega)) (kV_X4_is hts ml_X4_55 ⟨(Nat.le_of_ble_eq_true rfl), (Nat.le_of_ble_eq_true rfl)⟩) rfl hl.1 rfl (Nat.le_of_ble_eq_true rfl) dX4_owned_28 (Nat.zero_le _) (Nat.zero_le _) ?_
      refine lv_if_ne (tgt := 51) hx hb dX4_owned_31 (by decide) (fun c_31 => ?_) (fun c_31 => ?_)
      · refine lv_iconst (v := 0) hx hb dX4_owned_51 (by decide) ?_
        refine lv_iadd hx hb dX4_owned_52 ?_
        refine lv_istore_n (lv' := [(2, .int (x2 + 0)), (0, .ref (o)), (1, .int (x)), (3, .int (nI k))]) hx hb dX4_owned_53 rfl hl (by decide) rfl (fun ls hl => ?_)
        refine lv_iinc (v := nI (k + 1)) (lv' := [(3, .int (nI (k + 1))), (2, .int (x2 + 0)), (0, .ref (o)), (1, .int (x))]) hx hb dX4_owned_54 hl (k := 3) rfl (nI_c1 _) (by decide) rfl (fun ls hl => ?_)
        refine lv_goto (tgt := 4) hx hb dX4_owned_57 (by decide) ?_
        exact ih (k + 1) (x2 + 0) (by omega) (by omega) (((br_n c_11 (br_p c_22 (br_n c_31 rfl))) : g_X4_owned_4 μ x fu (k + 1) (x2 + 0) = g_X4_owned_4 μ x (fu + 1) k x2).trans hg_4) ls (lv_sub hl [2, 3, 0, 1] rfl)
      refine lv_aload_n hx hb dX4_owned_34 rfl (lv_at hl 0 rfl) ?_
      refine lv_iload_n hx hb dX4_owned_35 rfl (lv_at hl 2 rfl) ?_
      refine lv_iconst (v := 3) hx hb dX4_owned_36 (by decide) ?_
      refine mo_call (rest := [.int (x2)]) hx hb hml hown hts hK hP (c_X4_is l D cI o a μ hh (nI k) k rfl 3 (by first | with_reducible assumption | omega)) (kV_X4_is hts ml_X4_55 ⟨(Nat.le_of_ble_eq_true rfl), (Nat.le_of_ble_eq_true rfl)⟩) rfl hl.1 rfl (Nat.le_of_ble_eq_true rfl) dX4_owned_37 (Nat.zero_le _) (Nat.zero_le _) ?_
      refine lv_if_ne (tgt := 51) hx hb dX4_owned_40 (by decide) (fun c_40 => ?_) (fun c_40 => ?_)
      · refine lv_iconst (v := 0) hx hb dX4_owned_51 (by decide) ?_
        refine lv_iadd hx hb dX4_owned_52 ?_
        refine lv_istore_n (lv' := [(2, .int (x2 + 0)), (0, .ref (o)), (1, .int (x)), (3, .int (nI k))]) hx hb dX4_owned_53 rfl hl (by decide) rfl (fun ls hl => ?_)
        refine lv_iinc (v := nI (k + 1)) (lv' := [(3, .int (nI (k + 1))), (2, .int (x2 + 0)), (0, .ref (o)), (1, .int (x))]) hx hb dX4_owned_54 hl (k := 3) rfl (nI_c1 _) (by decide) rfl (fun ls hl => ?_)
        refine lv_goto (tgt := 4) hx hb dX4_owned_57 (by decide) ?_
        exact ih (k + 1) (x2 + 0) (by omega) (by omega) (((br_n c_11 (br_p c_22 (br_p c_31 (br_n c_40 rfl)))) : g_X4_owned_4 μ x fu (k + 1) (x2 + 0) = g_X4_owned_4 μ x (fu + 1) k x2).trans hg_4) ls (lv_sub hl [2, 3, 0, 1] rfl)
      refine lv_aload_n hx hb dX4_owned_43 rfl (lv_at hl 0 rfl) ?_
      refine lv_iload_n hx hb dX4_owned_44 rfl (lv_at hl 2 rfl) ?_
      refine mo_call (rest := [.int (x2)]) hx hb hml hown hts hK hP (c_X4_worthOf l D cI o a μ hh (nI k) k rfl (by with_reducible assumption) (by first | with_reducible assumption | omega)) (kV_X4_worthOf hts ml_X4_99 ⟨(Nat.le_of_ble_eq_true rfl), (Nat.le_of_ble_eq_true rfl)⟩) rfl hl.1 rfl (Nat.le_of_ble_eq_true rfl) dX4_owned_45 (Nat.zero_le _) (Nat.zero_le _) ?_
      refine lv_goto (tgt := 52) hx hb dX4_owned_48 (by decide) ?_
      refine lv_iadd hx hb dX4_owned_52 ?_
      refine lv_istore_n (lv' := [(2, .int (x2 + (f_X4_worthOf μ k))), (0, .ref (o)), (1, .int (x)), (3, .int (nI k))]) hx hb dX4_owned_53 rfl hl (by decide) rfl (fun ls hl => ?_)
      refine lv_iinc (v := nI (k + 1)) (lv' := [(3, .int (nI (k + 1))), (2, .int (x2 + (f_X4_worthOf μ k))), (0, .ref (o)), (1, .int (x))]) hx hb dX4_owned_54 hl (k := 3) rfl (nI_c1 _) (by decide) rfl (fun ls hl => ?_)
      refine lv_goto (tgt := 4) hx hb dX4_owned_57 (by decide) ?_
      exact ih (k + 1) (x2 + (f_X4_worthOf μ k)) (by omega) (by omega) (((br_n c_11 (br_p c_22 (br_p c_31 (br_p c_40 rfl)))) : g_X4_owned_4 μ x fu (k + 1) (x2 + (f_X4_worthOf μ k)) = g_X4_owned_4 μ x (fu + 1) k x2).trans hg_4) ls (lv_sub hl [2, 3, 0, 1] rfl)
  exact L_4 (mN μ + 1) 0 0 (by omega) (by omega) rfl ls (lv_sub hl [2, 3, 0, 1] rfl)
theorem kV_X4_owned {R : Room} {s : State} {args : Array Value} {own : String} {idx : Nat} {c0 : Cond} (hts : ∀ w ∈ c0 :: W0, w.before args s = true) (hl : Cond.methodLink own idx yX4_owned ∈ W0) (hR : rm_X4_owned.frames + 1 ≤ R.frames ∧ 8 + (4 + 11) + rm_X4_owned.locals ≤ R.locals) : CallW R s args own RX4 idx yX4_owned cX4_owned 4 (some .int) (Cond.code yX4_owned cX4_owned 4 (some .int) :: W0) rm_X4_owned 0 0 1 := cwV 1 hts (gdV hl mi_yX4_owned ms_yX4_owned mini_X4 mc_yX4_owned) rfl rfl rfl (by decide +kernel) hR

/-! X4.agingOf -/
def m_X4_agingOf (μ : Nat → Nat → Int32) (x : Int32) : Int32 × (Nat → Nat → Int32) := (if (f_X4_isTitle μ x) = 0 then ((-2), μ) else (if (f_X4_current μ (tn x)) = 30 then ((-5), μ) else ((f_X4_owned μ x) - (f_X4_owned (shU μ 0 ((23 + (2 * (tn x))) + 1) ((μ 0 ((23 + (2 * (tn x))) + 1)) + 1)) x), (shU (shU μ 0 ((23 + (2 * (tn x))) + 1) ((μ 0 ((23 + (2 * (tn x))) + 1)) + 1)) 0 ((23 + (2 * (tn x))) + 1) (((μ 0 ((23 + (2 * (tn x))) + 1)) + 1) - 1)))))
abbrev rm_X4_agingOf : Room := { frames := 4, cells := 0, slots := 0, locals := 90 }
set_option maxRecDepth 100000 in
theorem c_X4_agingOf (l : Launch) (D : va_G) (cI : ClassId) (o : Nat) (a : Nat → Nat) (μ : Nat → Nat → Int32) (hh : Int64) (x : Int32) (hok : okM μ) :
    Met l yX4_agingOf (Cond.code yX4_agingOf cX4_agingOf 4 (some .int) :: W0) rm_X4_agingOf (va_Pc [.ref o, .int x] (moM D cI o a μ hh)) (moQ D cI o a hh (m_X4_agingOf μ x)) 0 0 (moA o a) := by
  refine st_gen (cc := cX4_agingOf) (maxL := 4) (ret := some .int) (own := RX4) (by decide) rfl (Nat.le_of_ble_eq_true rfl) ?_
  intro p e s m below meth c ls C hPre hl
  obtain ⟨hx, hb, hr, hml, hown, hts, hlk⟩ := C
  obtain ⟨⟨hP, hK⟩, hD⟩ := hPre
  have hS : va_S (moA o a) s.heap s.heap [] := va_S.rf
  have hl : lv_has ls 4 [(0, .ref (o)), (1, .int (x))] := hl
  obtain ⟨hT6, hC6, hN6, hS5⟩ := okM_b hok
  refine lv_aload_n hx hb dX4_agingOf_0 rfl (lv_at hl 0 rfl) ?_
  refine lv_iload_n hx hb dX4_agingOf_1 rfl (lv_at hl 1 rfl) ?_
  refine mo_call (rest := []) hx hb hml hown hts hK hP (c_X4_isTitle l D cI o a μ hh x) (kV_X4_isTitle hts ml_X4_65 ⟨(Nat.le_of_ble_eq_true rfl), (Nat.le_of_ble_eq_true rfl)⟩) rfl hl.1 rfl (Nat.le_of_ble_eq_true rfl) dX4_agingOf_2 (Nat.zero_le _) (Nat.zero_le _) ?_
  refine lv_if_ne (tgt := 11) hx hb dX4_agingOf_5 (by decide) (fun c_5 => ?_) (fun c_5 => ?_)
  · have v_5 := isTitle_okm (μ := μ) (by with_reducible assumption) c_5
    have vb_5 := v_5.1
    refine lv_aload_n hx hb dX4_agingOf_11 rfl (lv_at hl 0 rfl) ?_
    refine lv_iload_n hx hb dX4_agingOf_12 rfl (lv_at hl 1 rfl) ?_
    refine mo_call (rest := []) hx hb hml hown hts hK hP (c_X4_current l D cI o a μ hh x (tn x) v_5.2 (by first | with_reducible assumption | omega)) (kV_X4_current hts ml_X4_42 ⟨(Nat.le_of_ble_eq_true rfl), (Nat.le_of_ble_eq_true rfl)⟩) rfl hl.1 rfl (Nat.le_of_ble_eq_true rfl) dX4_agingOf_13 (Nat.zero_le _) (Nat.zero_le _) ?_
    refine lv_bipush (v := 30) hx hb dX4_agingOf_16 (by decide) ?_
    refine lv_icmp_ne (tgt := 24) hx hb dX4_agingOf_18 (by decide) (fun c_18 => ?_) (fun c_18 => ?_)
    · refine lv_aload_n hx hb dX4_agingOf_24 rfl (lv_at hl 0 rfl) ?_
      refine lv_iload_n hx hb dX4_agingOf_25 rfl (lv_at hl 1 rfl) ?_
      refine mo_call (rest := []) hx hb hml hown hts hK hP (c_X4_owned l D cI o a μ hh x (by with_reducible assumption)) (kV_X4_owned hts ml_X4_183 ⟨(Nat.le_of_ble_eq_true rfl), (Nat.le_of_ble_eq_true rfl)⟩) rfl hl.1 rfl (Nat.le_of_ble_eq_true rfl) dX4_agingOf_26 (Nat.zero_le _) (Nat.zero_le _) ?_
      refine lv_istore_n (lv' := [(2, .int ((f_X4_owned μ x))), (0, .ref (o)), (1, .int (x))]) hx hb dX4_agingOf_29 rfl hl (by decide) rfl (fun ls hl => ?_)
      refine lv_aload_n hx hb dX4_agingOf_30 rfl (lv_at hl 1 rfl) ?_
      refine mo_g0 hx hb hts hown hK hP dX4_agingOf_31 ?_
      refine lv_bipush (v := 23) hx hb dX4_agingOf_34 (by decide) ?_
      refine lv_iconst (v := 2) hx hb dX4_agingOf_36 (by decide) ?_
      refine lv_iload_n hx hb dX4_agingOf_37 rfl (lv_at hl 2 rfl) ?_
      refine lv_imulN (x := 2) (y := tn x) hx hb rfl v_5.2 dX4_agingOf_38 ?_
      refine lv_iaddN (x := 23) (y := (2 * (tn x))) hx hb rfl rfl dX4_agingOf_39 ?_
      refine lv_iconst (v := 1) hx hb dX4_agingOf_40 (by decide) ?_
      refine lv_iaddN (x := (23 + (2 * (tn x)))) (y := 1) hx hb rfl rfl dX4_agingOf_41 ?_
      refine lv_dup2_11 hx hb dX4_agingOf_42 rfl rfl ?_
      refine mo_r0 hx hb hK hP (((23 + (2 * (tn x))) + 1)) rfl (by omega) (v := μ 0 ((23 + (2 * (tn x))) + 1)) rfl dX4_agingOf_43 ?_
      refine lv_iconst (v := 1) hx hb dX4_agingOf_44 (by decide) ?_
      refine lv_iadd hx hb dX4_agingOf_45 ?_
      refine mo_w0 hx hb hK hP hD hS (((23 + (2 * (tn x))) + 1)) rfl (by omega) dX4_agingOf_46 (fun H locs hP hS => ?_)
      have hok2 := ed_ok hok (μ 0 (23 + 2 * tn x + 1) + 1) (t := tn x) (by omega)
      refine lv_aload_n hx hb dX4_agingOf_47 rfl (lv_at hl 1 rfl) ?_
      refine lv_iload_n hx hb dX4_agingOf_48 rfl (lv_at hl 2 rfl) ?_
      refine mo_call (rest := []) hx hb hml hown hts hK hP (c_X4_owned l D cI o a (shU μ 0 ((23 + (2 * (tn x))) + 1) ((μ 0 ((23 + (2 * (tn x))) + 1)) + 1)) hh x (by with_reducible assumption)) (kV_X4_owned hts ml_X4_183 ⟨(Nat.le_of_ble_eq_true rfl), (Nat.le_of_ble_eq_true rfl)⟩) rfl hl.1 rfl (Nat.le_of_ble_eq_true rfl) dX4_agingOf_49 (Nat.zero_le _) (Nat.zero_le _) ?_
      refine lv_istore_n (lv' := [(3, .int ((f_X4_owned (shU μ 0 ((23 + (2 * (tn x))) + 1) ((μ 0 ((23 + (2 * (tn x))) + 1)) + 1)) x))), (2, .int ((f_X4_owned μ x))), (0, .ref (o)), (1, .int (x))]) hx hb dX4_agingOf_52 rfl hl (by decide) rfl (fun ls hl => ?_)
      refine lv_aload_n hx hb dX4_agingOf_53 rfl (lv_at hl 2 rfl) ?_
      refine mo_g0 hx hb hts hown hK hP dX4_agingOf_54 ?_
      refine lv_bipush (v := 23) hx hb dX4_agingOf_57 (by decide) ?_
      refine lv_iconst (v := 2) hx hb dX4_agingOf_59 (by decide) ?_
      refine lv_iload_n hx hb dX4_agingOf_60 rfl (lv_at hl 3 rfl) ?_
      refine lv_imulN (x := 2) (y := tn x) hx hb rfl v_5.2 dX4_agingOf_61 ?_
      refine lv_iaddN (x := 23) (y := (2 * (tn x))) hx hb rfl rfl dX4_agingOf_62 ?_
      refine lv_iconst (v := 1) hx hb dX4_agingOf_63 (by decide) ?_
      refine lv_iaddN (x := (23 + (2 * (tn x)))) (y := 1) hx hb rfl rfl dX4_agingOf_64 ?_
      refine lv_dup2_11 hx hb dX4_agingOf_65 rfl rfl ?_
      refine mo_r0 hx hb hK hP (((23 + (2 * (tn x))) + 1)) rfl (by omega) (v := (μ 0 ((23 + (2 * (tn x))) + 1)) + 1) shU_eq dX4_agingOf_66 ?_
      refine lv_iconst (v := 1) hx hb dX4_agingOf_67 (by decide) ?_
      refine lv_isub hx hb dX4_agingOf_68 ?_
      refine mo_w0 hx hb hK hP hD hS (((23 + (2 * (tn x))) + 1)) rfl (by omega) dX4_agingOf_69 (fun H locs hP hS => ?_)
      refine lv_iload_n hx hb dX4_agingOf_70 rfl (lv_at hl 1 rfl) ?_
      refine lv_iload_n hx hb dX4_agingOf_71 rfl (lv_at hl 0 rfl) ?_
      refine lv_isub hx hb dX4_agingOf_72 ?_
      exact mo_finM hx hb hr hlk hK hP hS (br_n c_5 (br_n c_18 rfl)) dX4_agingOf_73
    refine lv_bipush (v := (-5)) hx hb dX4_agingOf_21 (by decide) ?_
    exact mo_finM hx hb hr hlk hK hP hS (br_n c_5 (br_p c_18 rfl)) dX4_agingOf_23
  refine lv_bipush (v := (-2)) hx hb dX4_agingOf_8 (by decide) ?_
  exact mo_finM hx hb hr hlk hK hP hS (br_p c_5 rfl) dX4_agingOf_10
theorem kV_X4_agingOf {R : Room} {s : State} {args : Array Value} {own : String} {idx : Nat} {c0 : Cond} (hts : ∀ w ∈ c0 :: W0, w.before args s = true) (hl : Cond.methodLink own idx yX4_agingOf ∈ W0) (hR : rm_X4_agingOf.frames + 1 ≤ R.frames ∧ 8 + (4 + 11) + rm_X4_agingOf.locals ≤ R.locals) : CallW R s args own RX4 idx yX4_agingOf cX4_agingOf 4 (some .int) (Cond.code yX4_agingOf cX4_agingOf 4 (some .int) :: W0) rm_X4_agingOf 0 0 1 := cwV 1 hts (gdV hl mi_yX4_agingOf ms_yX4_agingOf mini_X4 mc_yX4_agingOf) rfl rfl rfl (by decide +kernel) hR

/-! X4.stockFrom -/
def g_X4_stockFrom_5 (μ : Nat → Nat → Int32) (x : Int32) (y : Int32) : Nat → (Nat) → (Int32) → Int32
  | 0, k, x3 => x3
  | fu + 1, k, x3 => (if mN μ ≤ k then x3 else (if (f_X4_of μ k 0) = x then (if (f_X4_is μ k 0) = 0 then g_X4_stockFrom_5 μ x y fu (k + 1) (x3 + 0) else (if (f_X4_of μ k 1) < y then g_X4_stockFrom_5 μ x y fu (k + 1) (x3 + 0) else g_X4_stockFrom_5 μ x y fu (k + 1) (x3 + 1))) else g_X4_stockFrom_5 μ x y fu (k + 1) (x3 + 0)))
def f_X4_stockFrom (μ : Nat → Nat → Int32) (x : Int32) (y : Int32) : Int32 := (g_X4_stockFrom_5 μ x y (mN μ + 1) 0 0)
abbrev rm_X4_stockFrom : Room := { frames := 2, cells := 0, slots := 0, locals := 44 }
set_option maxRecDepth 100000 in
theorem c_X4_stockFrom (l : Launch) (D : va_G) (cI : ClassId) (o : Nat) (a : Nat → Nat) (μ : Nat → Nat → Int32) (hh : Int64) (x : Int32) (y : Int32) (hok : okM μ) :
    Met l yX4_stockFrom (Cond.code yX4_stockFrom cX4_stockFrom 5 (some .int) :: W0) rm_X4_stockFrom (va_Pc [.ref o, .int x, .int y] (moP D cI o a μ hh)) (vp_Si (fun r => r = f_X4_stockFrom μ x y)) 0 0 (fun _ => False) := by
  refine st_gen (cc := cX4_stockFrom) (maxL := 5) (ret := some .int) (own := RX4) (by decide) rfl (Nat.le_of_ble_eq_true rfl) ?_
  intro p e s m below meth c ls C hPre hl
  obtain ⟨hx, hb, hr, hml, hown, hts, hlk⟩ := C
  obtain ⟨hP, hK⟩ := hPre
  have hl : lv_has ls 5 [(0, .ref (o)), (1, .int (x)), (2, .int (y))] := hl
  obtain ⟨hT6, hC6, hN6, hS5⟩ := okM_b hok
  refine lv_iconst (v := 0) hx hb dX4_stockFrom_0 (by decide) ?_
  refine lv_istore_n (lv' := [(3, .int (0)), (0, .ref (o)), (1, .int (x)), (2, .int (y))]) hx hb dX4_stockFrom_1 rfl hl (by decide) rfl (fun ls hl => ?_)
  refine lv_iconst (v := 0) hx hb dX4_stockFrom_2 (by decide) ?_
  refine lv_istore (lv' := [(4, .int (0)), (3, .int (0)), (0, .ref (o)), (1, .int (x)), (2, .int (y))]) hx hb dX4_stockFrom_3 hl (by decide) rfl (fun ls hl => ?_)
  have K_62 : ∀ ls, lv_has ls 5 [(0, .ref (o)), (1, .int (x)), (2, .int (y)), (3, .int ((g_X4_stockFrom_5 μ x y (mN μ + 1) 0 0)))] → W p l e rm_X4_stockFrom s m (([.ref (o), .int (x), .int (y)] : List Value).toArray) below meth c s.heap [] 0 0 (MQ below (vp_Si (fun r => r = f_X4_stockFrom μ x y)) ([.ref (o), .int (x), .int (y)] : List Value).toArray s 0 0 (fun _ => False)) (F0 m 62 ls []) := by
    intro ls hl
    refine lv_iload_n hx hb dX4_stockFrom_62 rfl (lv_at hl 3 rfl) ?_
    exact fin_i hx hb hr hlk rfl dX4_stockFrom_63
  have L_5 : ∀ (fu : Nat) (k : Nat) (x3 : Int32), mN μ - k < fu → k ≤ mN μ → g_X4_stockFrom_5 μ x y fu k x3 = g_X4_stockFrom_5 μ x y (mN μ + 1) 0 0 → ∀ ls, lv_has ls 5 [(0, .ref (o)), (1, .int (x)), (2, .int (y)), (4, .int (nI k)), (3, .int (x3))] → W p l e rm_X4_stockFrom s m (([.ref (o), .int (x), .int (y)] : List Value).toArray) below meth c s.heap [] 0 0 (MQ below (vp_Si (fun r => r = f_X4_stockFrom μ x y)) ([.ref (o), .int (x), .int (y)] : List Value).toArray s 0 0 (fun _ => False)) (F0 m 5 ls []) := by
    intro fu
    induction fu with
    | zero => intro k x3 hm; exact absurd hm (Nat.not_lt_zero _)
    | succ fu ih =>
      intro k x3 hm hkN hg_5 ls hl
      refine lv_iload hx hb dX4_stockFrom_5 (lv_at hl 3 rfl) ?_
      refine lv_aload_n hx hb dX4_stockFrom_7 rfl (lv_at hl 0 rfl) ?_
      refine mo_g0 hx hb hts hown hK hP dX4_stockFrom_8 ?_
      refine lv_iconst (v := 1) hx hb dX4_stockFrom_11 (by decide) ?_
      refine mo_r0 hx hb hK hP (1) rfl (by omega) (v := μ 0 1) rfl dX4_stockFrom_12 ?_
      refine lv_icmp_geN (k) (mN μ) hx hb rfl (show okN μ by first | with_reducible assumption | exact okM_1 (by with_reducible assumption)).1 (by omega) (by omega) (tgt := 62) dX4_stockFrom_13 (by decide) (fun c_13 => ?_) (fun c_13 => ?_)
      · have ex : x3 = g_X4_stockFrom_5 μ x y (mN μ + 1) 0 0 := ((br_p c_13 rfl) : x3 = g_X4_stockFrom_5 μ x y (fu + 1) k x3).trans hg_5
        exact K_62 ls (by rw [← ex]; exact lv_sub hl [0, 1, 2, 4] rfl)
      refine lv_iload_n hx hb dX4_stockFrom_16 rfl (lv_at hl 4 rfl) ?_
      refine lv_aload_n hx hb dX4_stockFrom_17 rfl (lv_at hl 0 rfl) ?_
      refine lv_iload hx hb dX4_stockFrom_18 (lv_at hl 3 rfl) ?_
      refine lv_iconst (v := 0) hx hb dX4_stockFrom_20 (by decide) ?_
      refine mo_call (rest := [.int (x3)]) hx hb hml hown hts hK hP (c_X4_of l D cI o a μ hh (nI k) k rfl 0 0 rfl (by first | with_reducible assumption | omega)) (kV_X4_of hts ml_X4_34 ⟨(Nat.le_of_ble_eq_true rfl), (Nat.le_of_ble_eq_true rfl)⟩) rfl hl.1 rfl (Nat.le_of_ble_eq_true rfl) dX4_stockFrom_21 (Nat.zero_le _) (Nat.zero_le _) ?_
      refine lv_iload_n hx hb dX4_stockFrom_24 rfl (lv_at hl 1 rfl) ?_
      refine lv_icmp_ne (tgt := 53) hx hb dX4_stockFrom_25 (by decide) (fun c_25 => ?_) (fun c_25 => ?_)
      · refine lv_iconst (v := 0) hx hb dX4_stockFrom_53 (by decide) ?_
        refine lv_iadd hx hb dX4_stockFrom_54 ?_
        refine lv_istore_n (lv' := [(3, .int (x3 + 0)), (0, .ref (o)), (1, .int (x)), (2, .int (y)), (4, .int (nI k))]) hx hb dX4_stockFrom_55 rfl hl (by decide) rfl (fun ls hl => ?_)
        refine lv_iinc (v := nI (k + 1)) (lv' := [(4, .int (nI (k + 1))), (3, .int (x3 + 0)), (0, .ref (o)), (1, .int (x)), (2, .int (y))]) hx hb dX4_stockFrom_56 hl (k := 4) rfl (nI_c1 _) (by decide) rfl (fun ls hl => ?_)
        refine lv_goto (tgt := 5) hx hb dX4_stockFrom_59 (by decide) ?_
        exact ih (k + 1) (x3 + 0) (by omega) (by omega) (((br_n c_13 (br_n c_25 rfl)) : g_X4_stockFrom_5 μ x y fu (k + 1) (x3 + 0) = g_X4_stockFrom_5 μ x y (fu + 1) k x3).trans hg_5) ls (lv_sub hl [2, 3, 4, 0, 1] rfl)
      refine lv_aload_n hx hb dX4_stockFrom_28 rfl (lv_at hl 0 rfl) ?_
      refine lv_iload hx hb dX4_stockFrom_29 (lv_at hl 3 rfl) ?_
      refine lv_iconst (v := 0) hx hb dX4_stockFrom_31 (by decide) ?_
      refine mo_call (rest := [.int (x3)]) hx hb hml hown hts hK hP (c_X4_is l D cI o a μ hh (nI k) k rfl 0 (by first | with_reducible assumption | omega)) (kV_X4_is hts ml_X4_55 ⟨(Nat.le_of_ble_eq_true rfl), (Nat.le_of_ble_eq_true rfl)⟩) rfl hl.1 rfl (Nat.le_of_ble_eq_true rfl) dX4_stockFrom_32 (Nat.zero_le _) (Nat.zero_le _) ?_
      refine lv_if_eq (tgt := 53) hx hb dX4_stockFrom_35 (by decide) (fun c_35 => ?_) (fun c_35 => ?_)
      · refine lv_iconst (v := 0) hx hb dX4_stockFrom_53 (by decide) ?_
        refine lv_iadd hx hb dX4_stockFrom_54 ?_
        refine lv_istore_n (lv' := [(3, .int (x3 + 0)), (0, .ref (o)), (1, .int (x)), (2, .int (y)), (4, .int (nI k))]) hx hb dX4_stockFrom_55 rfl hl (by decide) rfl (fun ls hl => ?_)
        refine lv_iinc (v := nI (k + 1)) (lv' := [(4, .int (nI (k + 1))), (3, .int (x3 + 0)), (0, .ref (o)), (1, .int (x)), (2, .int (y))]) hx hb dX4_stockFrom_56 hl (k := 4) rfl (nI_c1 _) (by decide) rfl (fun ls hl => ?_)
        refine lv_goto (tgt := 5) hx hb dX4_stockFrom_59 (by decide) ?_
        exact ih (k + 1) (x3 + 0) (by omega) (by omega) (((br_n c_13 (br_p c_25 (br_p c_35 rfl))) : g_X4_stockFrom_5 μ x y fu (k + 1) (x3 + 0) = g_X4_stockFrom_5 μ x y (fu + 1) k x3).trans hg_5) ls (lv_sub hl [2, 3, 4, 0, 1] rfl)
      refine lv_aload_n hx hb dX4_stockFrom_38 rfl (lv_at hl 0 rfl) ?_
      refine lv_iload hx hb dX4_stockFrom_39 (lv_at hl 3 rfl) ?_
      refine lv_iconst (v := 1) hx hb dX4_stockFrom_41 (by decide) ?_
      refine mo_call (rest := [.int (x3)]) hx hb hml hown hts hK hP (c_X4_of l D cI o a μ hh (nI k) k rfl 1 1 rfl (by first | with_reducible assumption | omega)) (kV_X4_of hts ml_X4_34 ⟨(Nat.le_of_ble_eq_true rfl), (Nat.le_of_ble_eq_true rfl)⟩) rfl hl.1 rfl (Nat.le_of_ble_eq_true rfl) dX4_stockFrom_42 (Nat.zero_le _) (Nat.zero_le _) ?_
      refine lv_iload_n hx hb dX4_stockFrom_45 rfl (lv_at hl 2 rfl) ?_
      refine lv_icmp_lt (tgt := 53) hx hb dX4_stockFrom_46 (by decide) (fun c_46 => ?_) (fun c_46 => ?_)
      · refine lv_iconst (v := 0) hx hb dX4_stockFrom_53 (by decide) ?_
        refine lv_iadd hx hb dX4_stockFrom_54 ?_
        refine lv_istore_n (lv' := [(3, .int (x3 + 0)), (0, .ref (o)), (1, .int (x)), (2, .int (y)), (4, .int (nI k))]) hx hb dX4_stockFrom_55 rfl hl (by decide) rfl (fun ls hl => ?_)
        refine lv_iinc (v := nI (k + 1)) (lv' := [(4, .int (nI (k + 1))), (3, .int (x3 + 0)), (0, .ref (o)), (1, .int (x)), (2, .int (y))]) hx hb dX4_stockFrom_56 hl (k := 4) rfl (nI_c1 _) (by decide) rfl (fun ls hl => ?_)
        refine lv_goto (tgt := 5) hx hb dX4_stockFrom_59 (by decide) ?_
        exact ih (k + 1) (x3 + 0) (by omega) (by omega) (((br_n c_13 (br_p c_25 (br_n c_35 (br_p c_46 rfl)))) : g_X4_stockFrom_5 μ x y fu (k + 1) (x3 + 0) = g_X4_stockFrom_5 μ x y (fu + 1) k x3).trans hg_5) ls (lv_sub hl [2, 3, 4, 0, 1] rfl)
      refine lv_iconst (v := 1) hx hb dX4_stockFrom_49 (by decide) ?_
      refine lv_goto (tgt := 54) hx hb dX4_stockFrom_50 (by decide) ?_
      refine lv_iadd hx hb dX4_stockFrom_54 ?_
      refine lv_istore_n (lv' := [(3, .int (x3 + 1)), (0, .ref (o)), (1, .int (x)), (2, .int (y)), (4, .int (nI k))]) hx hb dX4_stockFrom_55 rfl hl (by decide) rfl (fun ls hl => ?_)
      refine lv_iinc (v := nI (k + 1)) (lv' := [(4, .int (nI (k + 1))), (3, .int (x3 + 1)), (0, .ref (o)), (1, .int (x)), (2, .int (y))]) hx hb dX4_stockFrom_56 hl (k := 4) rfl (nI_c1 _) (by decide) rfl (fun ls hl => ?_)
      refine lv_goto (tgt := 5) hx hb dX4_stockFrom_59 (by decide) ?_
      exact ih (k + 1) (x3 + 1) (by omega) (by omega) (((br_n c_13 (br_p c_25 (br_n c_35 (br_n c_46 rfl)))) : g_X4_stockFrom_5 μ x y fu (k + 1) (x3 + 1) = g_X4_stockFrom_5 μ x y (fu + 1) k x3).trans hg_5) ls (lv_sub hl [2, 3, 4, 0, 1] rfl)
  exact L_5 (mN μ + 1) 0 0 (by omega) (by omega) rfl ls (lv_sub hl [2, 3, 4, 0, 1] rfl)
theorem kV_X4_stockFrom {R : Room} {s : State} {args : Array Value} {own : String} {idx : Nat} {c0 : Cond} (hts : ∀ w ∈ c0 :: W0, w.before args s = true) (hl : Cond.methodLink own idx yX4_stockFrom ∈ W0) (hR : rm_X4_stockFrom.frames + 1 ≤ R.frames ∧ 8 + (5 + 11) + rm_X4_stockFrom.locals ≤ R.locals) : CallW R s args own RX4 idx yX4_stockFrom cX4_stockFrom 5 (some .int) (Cond.code yX4_stockFrom cX4_stockFrom 5 (some .int) :: W0) rm_X4_stockFrom 0 0 2 := cwV 2 hts (gdV hl mi_yX4_stockFrom ms_yX4_stockFrom mini_X4 mc_yX4_stockFrom) rfl rfl rfl (by decide +kernel) hR

/-! X4.servedOf -/
def g_X4_servedOf_15 (μ : Nat → Nat → Int32) (x : Int32) (w : Nat) (x2 : Int32) : Nat → (Nat) → (Int32) → Int32
  | 0, k, x4 => x4
  | fu + 1, k, x4 => (if mC μ ≤ k then x4 else (if (f_X4_ofCourse μ k 0) = x then (if (f_X4_ofCourse μ k 1) = (nI w) then g_X4_servedOf_15 μ x w x2 fu (k + 1) (x4 + (f_X4_ofCourse μ k 2)) else g_X4_servedOf_15 μ x w x2 fu (k + 1) (x4 + 0)) else g_X4_servedOf_15 μ x w x2 fu (k + 1) (x4 + 0)))
def g_X4_servedOf_5 (μ : Nat → Nat → Int32) (x : Int32) : Nat → (Nat) → (Int32) → Int32
  | 0, w, x2 => x2
  | fu + 1, w, x2 => (if w = 0 then x2 else g_X4_servedOf_5 μ x fu (w - 1) (x2 + (f_X4_lesser (g_X4_servedOf_15 μ x w x2 (mC μ + 1) 0 0) ((f_X4_stockFrom μ x (nI w)) - x2))))
def f_X4_servedOf (μ : Nat → Nat → Int32) (x : Int32) : Int32 := (g_X4_servedOf_5 μ x 31 30 0)
abbrev rm_X4_servedOf : Room := { frames := 3, cells := 0, slots := 0, locals := 68 }
set_option maxRecDepth 100000 in
theorem c_X4_servedOf (l : Launch) (D : va_G) (cI : ClassId) (o : Nat) (a : Nat → Nat) (μ : Nat → Nat → Int32) (hh : Int64) (x : Int32) (hok : okM μ) :
    Met l yX4_servedOf (Cond.code yX4_servedOf cX4_servedOf 6 (some .int) :: W0) rm_X4_servedOf (va_Pc [.ref o, .int x] (moP D cI o a μ hh)) (vp_Si (fun r => r = f_X4_servedOf μ x)) 0 0 (fun _ => False) := by
  refine st_gen (cc := cX4_servedOf) (maxL := 6) (ret := some .int) (own := RX4) (by decide) rfl (Nat.le_of_ble_eq_true rfl) ?_
  intro p e s m below meth c ls C hPre hl
  obtain ⟨hx, hb, hr, hml, hown, hts, hlk⟩ := C
  obtain ⟨hP, hK⟩ := hPre
  have hl : lv_has ls 6 [(0, .ref (o)), (1, .int (x))] := hl
  obtain ⟨hT6, hC6, hN6, hS5⟩ := okM_b hok
  refine lv_iconst (v := 0) hx hb dX4_servedOf_0 (by decide) ?_
  refine lv_istore_n (lv' := [(2, .int (0)), (0, .ref (o)), (1, .int (x))]) hx hb dX4_servedOf_1 rfl hl (by decide) rfl (fun ls hl => ?_)
  refine lv_bipush (v := 30) hx hb dX4_servedOf_2 (by decide) ?_
  refine lv_istore_n (lv' := [(3, .int (30)), (2, .int (0)), (0, .ref (o)), (1, .int (x))]) hx hb dX4_servedOf_4 rfl hl (by decide) rfl (fun ls hl => ?_)
  have K_92 : ∀ ls, lv_has ls 6 [(0, .ref (o)), (1, .int (x)), (2, .int ((g_X4_servedOf_5 μ x 31 30 0)))] → W p l e rm_X4_servedOf s m (([.ref (o), .int (x)] : List Value).toArray) below meth c s.heap [] 0 0 (MQ below (vp_Si (fun r => r = f_X4_servedOf μ x)) ([.ref (o), .int (x)] : List Value).toArray s 0 0 (fun _ => False)) (F0 m 92 ls []) := by
    intro ls hl
    refine lv_iload_n hx hb dX4_servedOf_92 rfl (lv_at hl 2 rfl) ?_
    exact fin_i hx hb hr hlk rfl dX4_servedOf_93
  have L_5 : ∀ (fu : Nat) (w : Nat) (x2 : Int32), w < fu → w ≤ 30 → g_X4_servedOf_5 μ x fu w x2 = g_X4_servedOf_5 μ x 31 30 0 → ∀ ls, lv_has ls 6 [(0, .ref (o)), (1, .int (x)), (3, .int (nI w)), (2, .int (x2))] → W p l e rm_X4_servedOf s m (([.ref (o), .int (x)] : List Value).toArray) below meth c s.heap [] 0 0 (MQ below (vp_Si (fun r => r = f_X4_servedOf μ x)) ([.ref (o), .int (x)] : List Value).toArray s 0 0 (fun _ => False)) (F0 m 5 ls []) := by
    intro fu
    induction fu with
    | zero => intro w x2 hm; exact absurd hm (Nat.not_lt_zero _)
    | succ fu ih =>
      intro w x2 hm hw hg_5 ls hl
      refine lv_iload_n hx hb dX4_servedOf_5 rfl (lv_at hl 2 rfl) ?_
      refine lv_if_leN (w) hx hb rfl (by omega) (tgt := 92) dX4_servedOf_6 (by decide) (fun c_6 => ?_) (fun c_6 => ?_)
      · have ex : x2 = g_X4_servedOf_5 μ x 31 30 0 := ((br_p c_6 rfl) : x2 = g_X4_servedOf_5 μ x (fu + 1) w x2).trans hg_5
        exact K_92 ls (by rw [← ex]; exact lv_sub hl [0, 1, 3] rfl)
      refine lv_iconst (v := 0) hx hb dX4_servedOf_9 (by decide) ?_
      refine lv_istore (lv' := [(4, .int (0)), (0, .ref (o)), (1, .int (x)), (3, .int (nI w)), (2, .int (x2))]) hx hb dX4_servedOf_10 hl (by decide) rfl (fun ls hl => ?_)
      refine lv_iconst (v := 0) hx hb dX4_servedOf_12 (by decide) ?_
      refine lv_istore (lv' := [(5, .int (0)), (4, .int (0)), (0, .ref (o)), (1, .int (x)), (3, .int (nI w)), (2, .int (x2))]) hx hb dX4_servedOf_13 hl (by decide) rfl (fun ls hl => ?_)
      have K_70 : ∀ ls, lv_has ls 6 [(0, .ref (o)), (1, .int (x)), (3, .int (nI w)), (2, .int (x2)), (4, .int ((g_X4_servedOf_15 μ x w x2 (mC μ + 1) 0 0)))] → W p l e rm_X4_servedOf s m (([.ref (o), .int (x)] : List Value).toArray) below meth c s.heap [] 0 0 (MQ below (vp_Si (fun r => r = f_X4_servedOf μ x)) ([.ref (o), .int (x)] : List Value).toArray s 0 0 (fun _ => False)) (F0 m 70 ls []) := by
        intro ls hl
        refine lv_iload_n hx hb dX4_servedOf_70 rfl (lv_at hl 3 rfl) ?_
        refine lv_iload hx hb dX4_servedOf_71 (lv_at hl 4 rfl) ?_
        refine lv_aload_n hx hb dX4_servedOf_73 rfl (lv_at hl 0 rfl) ?_
        refine lv_iload_n hx hb dX4_servedOf_74 rfl (lv_at hl 1 rfl) ?_
        refine lv_iload_n hx hb dX4_servedOf_75 rfl (lv_at hl 2 rfl) ?_
        refine mo_call (rest := [.int ((g_X4_servedOf_15 μ x w x2 (mC μ + 1) 0 0)), .int (x2)]) hx hb hml hown hts hK hP (c_X4_stockFrom l D cI o a μ hh x (nI w) (by with_reducible assumption)) (kV_X4_stockFrom hts ml_X4_186 ⟨(Nat.le_of_ble_eq_true rfl), (Nat.le_of_ble_eq_true rfl)⟩) rfl hl.1 rfl (Nat.le_of_ble_eq_true rfl) dX4_servedOf_76 (Nat.zero_le _) (Nat.zero_le _) ?_
        refine lv_iload_n hx hb dX4_servedOf_79 rfl (lv_at hl 3 rfl) ?_
        refine lv_isub hx hb dX4_servedOf_80 ?_
        refine cl_S (rest := [.int (x2)]) hx hb hml hown hts (c_X4_lesser l (g_X4_servedOf_15 μ x w x2 (mC μ + 1) 0 0) ((f_X4_stockFrom μ x (nI w)) - x2)) (kS_X4_lesser hts ml_X4_45 ⟨(Nat.le_of_ble_eq_true rfl), (Nat.le_of_ble_eq_true rfl)⟩) rfl hl.1 rfl (Nat.le_of_ble_eq_true rfl) dX4_servedOf_81 (Nat.zero_le _) (Nat.zero_le _) ?_
        refine lv_iadd hx hb dX4_servedOf_84 ?_
        refine lv_istore_n (lv' := [(2, .int (x2 + (f_X4_lesser (g_X4_servedOf_15 μ x w x2 (mC μ + 1) 0 0) ((f_X4_stockFrom μ x (nI w)) - x2)))), (0, .ref (o)), (1, .int (x)), (3, .int (nI w)), (4, .int ((g_X4_servedOf_15 μ x w x2 (mC μ + 1) 0 0)))]) hx hb dX4_servedOf_85 rfl hl (by decide) rfl (fun ls hl => ?_)
        refine lv_iinc (v := nI (w - 1)) (lv' := [(3, .int (nI (w - 1))), (2, .int (x2 + (f_X4_lesser (g_X4_servedOf_15 μ x w x2 (mC μ + 1) 0 0) ((f_X4_stockFrom μ x (nI w)) - x2)))), (0, .ref (o)), (1, .int (x)), (4, .int ((g_X4_servedOf_15 μ x w x2 (mC μ + 1) 0 0)))]) hx hb dX4_servedOf_86 hl (k := 3) rfl (nI_cd (by omega)) (by decide) rfl (fun ls hl => ?_)
        refine lv_goto (tgt := 5) hx hb dX4_servedOf_89 (by decide) ?_
        exact ih (w - 1) (x2 + (f_X4_lesser (g_X4_servedOf_15 μ x w x2 (mC μ + 1) 0 0) ((f_X4_stockFrom μ x (nI w)) - x2))) (by omega) (by omega) (((br_n c_6 rfl) : g_X4_servedOf_5 μ x fu (w - 1) (x2 + (f_X4_lesser (g_X4_servedOf_15 μ x w x2 (mC μ + 1) 0 0) ((f_X4_stockFrom μ x (nI w)) - x2))) = g_X4_servedOf_5 μ x (fu + 1) w x2).trans hg_5) ls (lv_sub hl [2, 3, 0, 1] rfl)
      have L_15 : ∀ (fu : Nat) (k : Nat) (x4 : Int32), mC μ - k < fu → k ≤ mC μ → g_X4_servedOf_15 μ x w x2 fu k x4 = g_X4_servedOf_15 μ x w x2 (mC μ + 1) 0 0 → ∀ ls, lv_has ls 6 [(0, .ref (o)), (1, .int (x)), (3, .int (nI w)), (2, .int (x2)), (5, .int (nI k)), (4, .int (x4))] → W p l e rm_X4_servedOf s m (([.ref (o), .int (x)] : List Value).toArray) below meth c s.heap [] 0 0 (MQ below (vp_Si (fun r => r = f_X4_servedOf μ x)) ([.ref (o), .int (x)] : List Value).toArray s 0 0 (fun _ => False)) (F0 m 15 ls []) := by
        intro fu
        induction fu with
        | zero => intro k x4 hm; exact absurd hm (Nat.not_lt_zero _)
        | succ fu ih =>
          intro k x4 hm hkN hg_15 ls hl
          refine lv_iload hx hb dX4_servedOf_15 (lv_at hl 4 rfl) ?_
          refine lv_aload_n hx hb dX4_servedOf_17 rfl (lv_at hl 0 rfl) ?_
          refine mo_g0 hx hb hts hown hK hP dX4_servedOf_18 ?_
          refine lv_iconst (v := 2) hx hb dX4_servedOf_21 (by decide) ?_
          refine mo_r0 hx hb hK hP (2) rfl (by omega) (v := μ 0 2) rfl dX4_servedOf_22 ?_
          refine lv_icmp_geN (k) (mC μ) hx hb rfl (okM_2 (μ := μ) (by with_reducible assumption)) (by omega) (by omega) (tgt := 70) dX4_servedOf_23 (by decide) (fun c_23 => ?_) (fun c_23 => ?_)
          · have ex : x4 = g_X4_servedOf_15 μ x w x2 (mC μ + 1) 0 0 := ((br_p c_23 rfl) : x4 = g_X4_servedOf_15 μ x w x2 (fu + 1) k x4).trans hg_15
            exact K_70 ls (by rw [← ex]; exact lv_sub hl [0, 1, 2, 3, 5] rfl)
          refine lv_iload hx hb dX4_servedOf_26 (lv_at hl 5 rfl) ?_
          refine lv_aload_n hx hb dX4_servedOf_28 rfl (lv_at hl 0 rfl) ?_
          refine lv_iload hx hb dX4_servedOf_29 (lv_at hl 4 rfl) ?_
          refine lv_iconst (v := 0) hx hb dX4_servedOf_31 (by decide) ?_
          refine mo_call (rest := [.int (x4)]) hx hb hml hown hts hK hP (c_X4_ofCourse l D cI o a μ hh (nI k) k rfl 0 0 rfl (by first | with_reducible assumption | omega)) (kV_X4_ofCourse hts ml_X4_52 ⟨(Nat.le_of_ble_eq_true rfl), (Nat.le_of_ble_eq_true rfl)⟩) rfl hl.1 rfl (Nat.le_of_ble_eq_true rfl) dX4_servedOf_32 (Nat.zero_le _) (Nat.zero_le _) ?_
          refine lv_iload_n hx hb dX4_servedOf_35 rfl (lv_at hl 1 rfl) ?_
          refine lv_icmp_ne (tgt := 60) hx hb dX4_servedOf_36 (by decide) (fun c_36 => ?_) (fun c_36 => ?_)
          · refine lv_iconst (v := 0) hx hb dX4_servedOf_60 (by decide) ?_
            refine lv_iadd hx hb dX4_servedOf_61 ?_
            refine lv_istore (lv' := [(4, .int (x4 + 0)), (0, .ref (o)), (1, .int (x)), (3, .int (nI w)), (2, .int (x2)), (5, .int (nI k))]) hx hb dX4_servedOf_62 hl (by decide) rfl (fun ls hl => ?_)
            refine lv_iinc (v := nI (k + 1)) (lv' := [(5, .int (nI (k + 1))), (4, .int (x4 + 0)), (0, .ref (o)), (1, .int (x)), (3, .int (nI w)), (2, .int (x2))]) hx hb dX4_servedOf_64 hl (k := 5) rfl (nI_c1 _) (by decide) rfl (fun ls hl => ?_)
            refine lv_goto (tgt := 15) hx hb dX4_servedOf_67 (by decide) ?_
            exact ih (k + 1) (x4 + 0) (by omega) (by omega) (((br_n c_23 (br_n c_36 rfl)) : g_X4_servedOf_15 μ x w x2 fu (k + 1) (x4 + 0) = g_X4_servedOf_15 μ x w x2 (fu + 1) k x4).trans hg_15) ls (lv_sub hl [2, 3, 4, 5, 0, 1] rfl)
          refine lv_aload_n hx hb dX4_servedOf_39 rfl (lv_at hl 0 rfl) ?_
          refine lv_iload hx hb dX4_servedOf_40 (lv_at hl 4 rfl) ?_
          refine lv_iconst (v := 1) hx hb dX4_servedOf_42 (by decide) ?_
          refine mo_call (rest := [.int (x4)]) hx hb hml hown hts hK hP (c_X4_ofCourse l D cI o a μ hh (nI k) k rfl 1 1 rfl (by first | with_reducible assumption | omega)) (kV_X4_ofCourse hts ml_X4_52 ⟨(Nat.le_of_ble_eq_true rfl), (Nat.le_of_ble_eq_true rfl)⟩) rfl hl.1 rfl (Nat.le_of_ble_eq_true rfl) dX4_servedOf_43 (Nat.zero_le _) (Nat.zero_le _) ?_
          refine lv_iload_n hx hb dX4_servedOf_46 rfl (lv_at hl 2 rfl) ?_
          refine lv_icmp_ne (tgt := 60) hx hb dX4_servedOf_47 (by decide) (fun c_47 => ?_) (fun c_47 => ?_)
          · refine lv_iconst (v := 0) hx hb dX4_servedOf_60 (by decide) ?_
            refine lv_iadd hx hb dX4_servedOf_61 ?_
            refine lv_istore (lv' := [(4, .int (x4 + 0)), (0, .ref (o)), (1, .int (x)), (3, .int (nI w)), (2, .int (x2)), (5, .int (nI k))]) hx hb dX4_servedOf_62 hl (by decide) rfl (fun ls hl => ?_)
            refine lv_iinc (v := nI (k + 1)) (lv' := [(5, .int (nI (k + 1))), (4, .int (x4 + 0)), (0, .ref (o)), (1, .int (x)), (3, .int (nI w)), (2, .int (x2))]) hx hb dX4_servedOf_64 hl (k := 5) rfl (nI_c1 _) (by decide) rfl (fun ls hl => ?_)
            refine lv_goto (tgt := 15) hx hb dX4_servedOf_67 (by decide) ?_
            exact ih (k + 1) (x4 + 0) (by omega) (by omega) (((br_n c_23 (br_p c_36 (br_n c_47 rfl))) : g_X4_servedOf_15 μ x w x2 fu (k + 1) (x4 + 0) = g_X4_servedOf_15 μ x w x2 (fu + 1) k x4).trans hg_15) ls (lv_sub hl [2, 3, 4, 5, 0, 1] rfl)
          refine lv_aload_n hx hb dX4_servedOf_50 rfl (lv_at hl 0 rfl) ?_
          refine lv_iload hx hb dX4_servedOf_51 (lv_at hl 4 rfl) ?_
          refine lv_iconst (v := 2) hx hb dX4_servedOf_53 (by decide) ?_
          refine mo_call (rest := [.int (x4)]) hx hb hml hown hts hK hP (c_X4_ofCourse l D cI o a μ hh (nI k) k rfl 2 2 rfl (by first | with_reducible assumption | omega)) (kV_X4_ofCourse hts ml_X4_52 ⟨(Nat.le_of_ble_eq_true rfl), (Nat.le_of_ble_eq_true rfl)⟩) rfl hl.1 rfl (Nat.le_of_ble_eq_true rfl) dX4_servedOf_54 (Nat.zero_le _) (Nat.zero_le _) ?_
          refine lv_goto (tgt := 61) hx hb dX4_servedOf_57 (by decide) ?_
          refine lv_iadd hx hb dX4_servedOf_61 ?_
          refine lv_istore (lv' := [(4, .int (x4 + (f_X4_ofCourse μ k 2))), (0, .ref (o)), (1, .int (x)), (3, .int (nI w)), (2, .int (x2)), (5, .int (nI k))]) hx hb dX4_servedOf_62 hl (by decide) rfl (fun ls hl => ?_)
          refine lv_iinc (v := nI (k + 1)) (lv' := [(5, .int (nI (k + 1))), (4, .int (x4 + (f_X4_ofCourse μ k 2))), (0, .ref (o)), (1, .int (x)), (3, .int (nI w)), (2, .int (x2))]) hx hb dX4_servedOf_64 hl (k := 5) rfl (nI_c1 _) (by decide) rfl (fun ls hl => ?_)
          refine lv_goto (tgt := 15) hx hb dX4_servedOf_67 (by decide) ?_
          exact ih (k + 1) (x4 + (f_X4_ofCourse μ k 2)) (by omega) (by omega) (((br_n c_23 (br_p c_36 (br_p c_47 rfl))) : g_X4_servedOf_15 μ x w x2 fu (k + 1) (x4 + (f_X4_ofCourse μ k 2)) = g_X4_servedOf_15 μ x w x2 (fu + 1) k x4).trans hg_15) ls (lv_sub hl [2, 3, 4, 5, 0, 1] rfl)
      exact L_15 (mC μ + 1) 0 0 (by omega) (by omega) rfl ls (lv_sub hl [2, 3, 4, 5, 0, 1] rfl)
  exact L_5 31 30 0 (by decide) (by decide) rfl ls (lv_sub hl [2, 3, 0, 1] rfl)
theorem kV_X4_servedOf {R : Room} {s : State} {args : Array Value} {own : String} {idx : Nat} {c0 : Cond} (hts : ∀ w ∈ c0 :: W0, w.before args s = true) (hl : Cond.methodLink own idx yX4_servedOf ∈ W0) (hR : rm_X4_servedOf.frames + 1 ≤ R.frames ∧ 8 + (6 + 11) + rm_X4_servedOf.locals ≤ R.locals) : CallW R s args own RX4 idx yX4_servedOf cX4_servedOf 6 (some .int) (Cond.code yX4_servedOf cX4_servedOf 6 (some .int) :: W0) rm_X4_servedOf 0 0 1 := cwV 1 hts (gdV hl mi_yX4_servedOf ms_yX4_servedOf mini_X4 mc_yX4_servedOf) rfl rfl rfl (by decide +kernel) hR

/-! X4.served -/
def g_X4_served_4 (μ : Nat → Nat → Int32) : Nat → (Nat) → (Int32) → Int32
  | 0, k, x1 => x1
  | fu + 1, k, x1 => (if mT μ ≤ k then x1 else g_X4_served_4 μ fu (k + 1) (x1 + (f_X4_servedOf μ (nI k))))
def f_X4_served (μ : Nat → Nat → Int32) : Int32 := (g_X4_served_4 μ (mT μ + 1) 0 0)
abbrev rm_X4_served : Room := { frames := 4, cells := 0, slots := 0, locals := 93 }
set_option maxRecDepth 100000 in
theorem c_X4_served (l : Launch) (D : va_G) (cI : ClassId) (o : Nat) (a : Nat → Nat) (μ : Nat → Nat → Int32) (hh : Int64) (hok : okM μ) :
    Met l yX4_served (Cond.code yX4_served cX4_served 3 (some .int) :: W0) rm_X4_served (va_Pc [.ref o] (moP D cI o a μ hh)) (vp_Si (fun r => r = f_X4_served μ)) 0 0 (fun _ => False) := by
  refine st_gen (cc := cX4_served) (maxL := 3) (ret := some .int) (own := RX4) (by decide) rfl (Nat.le_of_ble_eq_true rfl) ?_
  intro p e s m below meth c ls C hPre hl
  obtain ⟨hx, hb, hr, hml, hown, hts, hlk⟩ := C
  obtain ⟨hP, hK⟩ := hPre
  have hl : lv_has ls 3 [(0, .ref (o))] := hl
  obtain ⟨hT6, hC6, hN6, hS5⟩ := okM_b hok
  refine lv_iconst (v := 0) hx hb dX4_served_0 (by decide) ?_
  refine lv_istore_n (lv' := [(1, .int (0)), (0, .ref (o))]) hx hb dX4_served_1 rfl hl (by decide) rfl (fun ls hl => ?_)
  refine lv_iconst (v := 0) hx hb dX4_served_2 (by decide) ?_
  refine lv_istore_n (lv' := [(2, .int (0)), (1, .int (0)), (0, .ref (o))]) hx hb dX4_served_3 rfl hl (by decide) rfl (fun ls hl => ?_)
  have K_28 : ∀ ls, lv_has ls 3 [(0, .ref (o)), (1, .int ((g_X4_served_4 μ (mT μ + 1) 0 0)))] → W p l e rm_X4_served s m (([.ref (o)] : List Value).toArray) below meth c s.heap [] 0 0 (MQ below (vp_Si (fun r => r = f_X4_served μ)) ([.ref (o)] : List Value).toArray s 0 0 (fun _ => False)) (F0 m 28 ls []) := by
    intro ls hl
    refine lv_iload_n hx hb dX4_served_28 rfl (lv_at hl 1 rfl) ?_
    exact fin_i hx hb hr hlk rfl dX4_served_29
  have L_4 : ∀ (fu : Nat) (k : Nat) (x1 : Int32), mT μ - k < fu → k ≤ mT μ → g_X4_served_4 μ fu k x1 = g_X4_served_4 μ (mT μ + 1) 0 0 → ∀ ls, lv_has ls 3 [(0, .ref (o)), (2, .int (nI k)), (1, .int (x1))] → W p l e rm_X4_served s m (([.ref (o)] : List Value).toArray) below meth c s.heap [] 0 0 (MQ below (vp_Si (fun r => r = f_X4_served μ)) ([.ref (o)] : List Value).toArray s 0 0 (fun _ => False)) (F0 m 4 ls []) := by
    intro fu
    induction fu with
    | zero => intro k x1 hm; exact absurd hm (Nat.not_lt_zero _)
    | succ fu ih =>
      intro k x1 hm hkN hg_4 ls hl
      refine lv_iload_n hx hb dX4_served_4 rfl (lv_at hl 1 rfl) ?_
      refine lv_aload_n hx hb dX4_served_5 rfl (lv_at hl 0 rfl) ?_
      refine mo_g0 hx hb hts hown hK hP dX4_served_6 ?_
      refine lv_iconst (v := 0) hx hb dX4_served_9 (by decide) ?_
      refine mo_r0 hx hb hK hP (0) rfl (by omega) (v := μ 0 0) rfl dX4_served_10 ?_
      refine lv_icmp_geN (k) (mT μ) hx hb rfl (okM_0 (μ := μ) (by with_reducible assumption)) (by omega) (by omega) (tgt := 28) dX4_served_11 (by decide) (fun c_11 => ?_) (fun c_11 => ?_)
      · have ex : x1 = g_X4_served_4 μ (mT μ + 1) 0 0 := ((br_p c_11 rfl) : x1 = g_X4_served_4 μ (fu + 1) k x1).trans hg_4
        exact K_28 ls (by rw [← ex]; exact lv_sub hl [0, 2] rfl)
      refine lv_iload_n hx hb dX4_served_14 rfl (lv_at hl 2 rfl) ?_
      refine lv_aload_n hx hb dX4_served_15 rfl (lv_at hl 0 rfl) ?_
      refine lv_iload_n hx hb dX4_served_16 rfl (lv_at hl 1 rfl) ?_
      refine mo_call (rest := [.int (x1)]) hx hb hml hown hts hK hP (c_X4_servedOf l D cI o a μ hh (nI k) (by with_reducible assumption)) (kV_X4_servedOf hts ml_X4_189 ⟨(Nat.le_of_ble_eq_true rfl), (Nat.le_of_ble_eq_true rfl)⟩) rfl hl.1 rfl (Nat.le_of_ble_eq_true rfl) dX4_served_17 (Nat.zero_le _) (Nat.zero_le _) ?_
      refine lv_iadd hx hb dX4_served_20 ?_
      refine lv_istore_n (lv' := [(1, .int (x1 + (f_X4_servedOf μ (nI k)))), (0, .ref (o)), (2, .int (nI k))]) hx hb dX4_served_21 rfl hl (by decide) rfl (fun ls hl => ?_)
      refine lv_iinc (v := nI (k + 1)) (lv' := [(2, .int (nI (k + 1))), (1, .int (x1 + (f_X4_servedOf μ (nI k)))), (0, .ref (o))]) hx hb dX4_served_22 hl (k := 2) rfl (nI_c1 _) (by decide) rfl (fun ls hl => ?_)
      refine lv_goto (tgt := 4) hx hb dX4_served_25 (by decide) ?_
      exact ih (k + 1) (x1 + (f_X4_servedOf μ (nI k))) (by omega) (by omega) (((br_n c_11 rfl) : g_X4_served_4 μ fu (k + 1) (x1 + (f_X4_servedOf μ (nI k))) = g_X4_served_4 μ (fu + 1) k x1).trans hg_4) ls (lv_sub hl [2, 0, 1] rfl)
  exact L_4 (mT μ + 1) 0 0 (by omega) (by omega) rfl ls (lv_sub hl [2, 0, 1] rfl)
theorem kV_X4_served {R : Room} {s : State} {args : Array Value} {own : String} {idx : Nat} {c0 : Cond} (hts : ∀ w ∈ c0 :: W0, w.before args s = true) (hl : Cond.methodLink own idx yX4_served ∈ W0) (hR : rm_X4_served.frames + 1 ≤ R.frames ∧ 8 + (3 + 11) + rm_X4_served.locals ≤ R.locals) : CallW R s args own RX4 idx yX4_served cX4_served 3 (some .int) (Cond.code yX4_served cX4_served 3 (some .int) :: W0) rm_X4_served 0 0 0 := cwV 0 hts (gdV hl mi_yX4_served ms_yX4_served mini_X4 mc_yX4_served) rfl rfl rfl (by decide +kernel) hR

/-! X4.addTitle -/
def m_X4_addTitle (μ : Nat → Nat → Int32) (x : Int32) (y : Int32) : Int32 × (Nat → Nat → Int32) := (if (f_X4_in x 100 20000) = 0 then ((-3), μ) else (if (f_X4_in y 1 30) = 0 then ((-3), μ) else (if (μ 0 0) = 6 then ((-5), μ) else ((((s_X4_saves μ) 0 0) + 1) - 1, (shU (shU (shU (s_X4_saves μ) 0 (23 + (2 * (mT (s_X4_saves μ)))) x) 0 ((23 + (2 * (mT (s_X4_saves μ)))) + 1) y) 0 0 (((s_X4_saves μ) 0 0) + 1))))))
abbrev rm_X4_addTitle : Room := { frames := 2, cells := 0, slots := 0, locals := 44 }
set_option maxRecDepth 100000 in
theorem c_X4_addTitle (l : Launch) (D : va_G) (cI : ClassId) (o : Nat) (a : Nat → Nat) (μ : Nat → Nat → Int32) (hh : Int64) (x : Int32) (y : Int32) (hok : okM μ) :
    Met l yX4_addTitle (Cond.code yX4_addTitle cX4_addTitle 3 (some .int) :: W0) rm_X4_addTitle (va_Pc [.ref o, .int x, .int y] (moM D cI o a μ hh)) (moQ D cI o a hh (m_X4_addTitle μ x y)) 0 0 (moA o a) := by
  refine st_gen (cc := cX4_addTitle) (maxL := 3) (ret := some .int) (own := RX4) (by decide) rfl (Nat.le_of_ble_eq_true rfl) ?_
  intro p e s m below meth c ls C hPre hl
  obtain ⟨hx, hb, hr, hml, hown, hts, hlk⟩ := C
  obtain ⟨⟨hP, hK⟩, hD⟩ := hPre
  have hS : va_S (moA o a) s.heap s.heap [] := va_S.rf
  have hl : lv_has ls 3 [(0, .ref (o)), (1, .int (x)), (2, .int (y))] := hl
  obtain ⟨hT6, hC6, hN6, hS5⟩ := okM_b hok
  refine lv_iload_n hx hb dX4_addTitle_0 rfl (lv_at hl 1 rfl) ?_
  refine lv_bipush (v := 100) hx hb dX4_addTitle_1 (by decide) ?_
  refine lv_sipush (v := 20000) hx hb dX4_addTitle_3 (by decide) ?_
  refine cl_S (rest := []) hx hb hml hown hts (c_X4_in l x 100 20000) (kS_X4_in hts ml_X4_30 ⟨(Nat.le_of_ble_eq_true rfl), (Nat.le_of_ble_eq_true rfl)⟩) rfl hl.1 rfl (Nat.le_of_ble_eq_true rfl) dX4_addTitle_6 (Nat.zero_le _) (Nat.zero_le _) ?_
  refine lv_if_eq (tgt := 22) hx hb dX4_addTitle_9 (by decide) (fun c_9 => ?_) (fun c_9 => ?_)
  · refine lv_bipush (v := (-3)) hx hb dX4_addTitle_22 (by decide) ?_
    exact mo_finM hx hb hr hlk hK hP hS (br_p c_9 rfl) dX4_addTitle_24
  have v_9 := inN 20000 c_9 (by decide) rfl (by decide)
  have vb_9 := v_9.1
  refine lv_iload_n hx hb dX4_addTitle_12 rfl (lv_at hl 2 rfl) ?_
  refine lv_iconst (v := 1) hx hb dX4_addTitle_13 (by decide) ?_
  refine lv_bipush (v := 30) hx hb dX4_addTitle_14 (by decide) ?_
  refine cl_S (rest := []) hx hb hml hown hts (c_X4_in l y 1 30) (kS_X4_in hts ml_X4_30 ⟨(Nat.le_of_ble_eq_true rfl), (Nat.le_of_ble_eq_true rfl)⟩) rfl hl.1 rfl (Nat.le_of_ble_eq_true rfl) dX4_addTitle_16 (Nat.zero_le _) (Nat.zero_le _) ?_
  refine lv_if_ne (tgt := 25) hx hb dX4_addTitle_19 (by decide) (fun c_19 => ?_) (fun c_19 => ?_)
  · have v_19 := inN 30 c_19 (by decide) rfl (by decide)
    have vb_19 := v_19.1
    refine lv_aload_n hx hb dX4_addTitle_25 rfl (lv_at hl 0 rfl) ?_
    refine mo_g0 hx hb hts hown hK hP dX4_addTitle_26 ?_
    refine lv_iconst (v := 0) hx hb dX4_addTitle_29 (by decide) ?_
    refine mo_r0 hx hb hK hP (0) rfl (by omega) (v := μ 0 0) rfl dX4_addTitle_30 ?_
    refine lv_bipush (v := 6) hx hb dX4_addTitle_31 (by decide) ?_
    refine lv_icmp_ne (tgt := 39) hx hb dX4_addTitle_33 (by decide) (fun c_33 => ?_) (fun c_33 => ?_)
    · refine lv_aload_n hx hb dX4_addTitle_39 rfl (lv_at hl 0 rfl) ?_
      refine mo_callV (rest := []) hx hb hml hown hts hK hP hD hS (c_X4_saves l D cI o a μ hh (by with_reducible assumption)) (kV_X4_saves hts ml_X4_62 ⟨(Nat.le_of_ble_eq_true rfl), (Nat.le_of_ble_eq_true rfl)⟩) rfl hl.1 rfl (Nat.le_of_ble_eq_true rfl) dX4_addTitle_40 (Nat.zero_le _) (Nat.zero_le _) (fun H locs hP hS => ?_)
      have hok_sv := saves_ok (μ := μ) (by with_reducible assumption)
      obtain ⟨hsn, hst, hsc⟩ := saves_n (μ := μ) (by with_reducible assumption)
      refine lv_aload_n hx hb dX4_addTitle_43 rfl (lv_at hl 0 rfl) ?_
      refine mo_g0 hx hb hts hown hK hP dX4_addTitle_44 ?_
      refine lv_bipush (v := 23) hx hb dX4_addTitle_47 (by decide) ?_
      refine lv_iconst (v := 2) hx hb dX4_addTitle_49 (by decide) ?_
      refine lv_aload_n hx hb dX4_addTitle_50 rfl (lv_at hl 0 rfl) ?_
      refine mo_g0 hx hb hts hown hK hP dX4_addTitle_51 ?_
      refine lv_iconst (v := 0) hx hb dX4_addTitle_54 (by decide) ?_
      refine mo_r0 hx hb hK hP (0) rfl (by omega) (v := (s_X4_saves μ) 0 0) rfl dX4_addTitle_55 ?_
      refine lv_imulN (x := 2) (y := mT (s_X4_saves μ)) hx hb rfl (okM_0 (μ := (s_X4_saves μ)) (by with_reducible assumption)) dX4_addTitle_56 ?_
      refine lv_iaddN (x := 23) (y := (2 * (mT (s_X4_saves μ)))) hx hb rfl rfl dX4_addTitle_57 ?_
      refine lv_iload_n hx hb dX4_addTitle_58 rfl (lv_at hl 1 rfl) ?_
      refine mo_w0 hx hb hK hP hD hS ((23 + (2 * (mT (s_X4_saves μ))))) rfl (by omega) dX4_addTitle_59 (fun H locs hP hS => ?_)
      refine lv_aload_n hx hb dX4_addTitle_60 rfl (lv_at hl 0 rfl) ?_
      refine mo_g0 hx hb hts hown hK hP dX4_addTitle_61 ?_
      refine lv_bipush (v := 23) hx hb dX4_addTitle_64 (by decide) ?_
      refine lv_iconst (v := 2) hx hb dX4_addTitle_66 (by decide) ?_
      refine lv_aload_n hx hb dX4_addTitle_67 rfl (lv_at hl 0 rfl) ?_
      refine mo_g0 hx hb hts hown hK hP dX4_addTitle_68 ?_
      refine lv_iconst (v := 0) hx hb dX4_addTitle_71 (by decide) ?_
      refine mo_r0 hx hb hK hP (0) rfl (by omega) (v := (s_X4_saves μ) 0 0) (shU_ne (σ := (s_X4_saves μ)) (by omega)) dX4_addTitle_72 ?_
      refine lv_imulN (x := 2) (y := mT (s_X4_saves μ)) hx hb rfl (okM_0 (μ := (s_X4_saves μ)) (by with_reducible assumption)) dX4_addTitle_73 ?_
      refine lv_iaddN (x := 23) (y := (2 * (mT (s_X4_saves μ)))) hx hb rfl rfl dX4_addTitle_74 ?_
      refine lv_iconst (v := 1) hx hb dX4_addTitle_75 (by decide) ?_
      refine lv_iaddN (x := (23 + (2 * (mT (s_X4_saves μ))))) (y := 1) hx hb rfl rfl dX4_addTitle_76 ?_
      refine lv_iload_n hx hb dX4_addTitle_77 rfl (lv_at hl 2 rfl) ?_
      refine mo_w0 hx hb hK hP hD hS (((23 + (2 * (mT (s_X4_saves μ)))) + 1)) rfl (by omega) dX4_addTitle_78 (fun H locs hP hS => ?_)
      refine lv_aload_n hx hb dX4_addTitle_79 rfl (lv_at hl 0 rfl) ?_
      refine mo_g0 hx hb hts hown hK hP dX4_addTitle_80 ?_
      refine lv_iconst (v := 0) hx hb dX4_addTitle_83 (by decide) ?_
      refine lv_dup2_11 hx hb dX4_addTitle_84 rfl rfl ?_
      refine mo_r0 hx hb hK hP (0) rfl (by omega) (v := (s_X4_saves μ) 0 0) ((shU_ne (σ := (shU (s_X4_saves μ) 0 (23 + (2 * (mT (s_X4_saves μ)))) x)) (by omega)).trans (shU_ne (σ := (s_X4_saves μ)) (by omega))) dX4_addTitle_85 ?_
      refine lv_iconst (v := 1) hx hb dX4_addTitle_86 (by decide) ?_
      refine lv_iadd hx hb dX4_addTitle_87 ?_
      refine mo_w0 hx hb hK hP hD hS (0) rfl (by omega) dX4_addTitle_88 (fun H locs hP hS => ?_)
      refine lv_aload_n hx hb dX4_addTitle_89 rfl (lv_at hl 0 rfl) ?_
      refine mo_g0 hx hb hts hown hK hP dX4_addTitle_90 ?_
      refine lv_iconst (v := 0) hx hb dX4_addTitle_93 (by decide) ?_
      refine mo_r0 hx hb hK hP (0) rfl (by omega) (v := ((s_X4_saves μ) 0 0) + 1) shU_eq dX4_addTitle_94 ?_
      refine lv_iconst (v := 1) hx hb dX4_addTitle_95 (by decide) ?_
      refine lv_isub hx hb dX4_addTitle_96 ?_
      exact mo_finM hx hb hr hlk hK hP hS (br_n c_9 (br_n c_19 (br_n c_33 rfl))) dX4_addTitle_97
    refine lv_bipush (v := (-5)) hx hb dX4_addTitle_36 (by decide) ?_
    exact mo_finM hx hb hr hlk hK hP hS (br_n c_9 (br_n c_19 (br_p c_33 rfl))) dX4_addTitle_38
  refine lv_bipush (v := (-3)) hx hb dX4_addTitle_22 (by decide) ?_
  exact mo_finM hx hb hr hlk hK hP hS (br_n c_9 (br_p c_19 rfl)) dX4_addTitle_24
theorem kV_X4_addTitle {R : Room} {s : State} {args : Array Value} {own : String} {idx : Nat} {c0 : Cond} (hts : ∀ w ∈ c0 :: W0, w.before args s = true) (hl : Cond.methodLink own idx yX4_addTitle ∈ W0) (hR : rm_X4_addTitle.frames + 1 ≤ R.frames ∧ 8 + (3 + 11) + rm_X4_addTitle.locals ≤ R.locals) : CallW R s args own RX4 idx yX4_addTitle cX4_addTitle 3 (some .int) (Cond.code yX4_addTitle cX4_addTitle 3 (some .int) :: W0) rm_X4_addTitle 0 0 2 := cwV 2 hts (gdV hl mi_yX4_addTitle ms_yX4_addTitle mini_X4 mc_yX4_addTitle) rfl rfl rfl (by decide +kernel) hR

/-! X4.setPrice -/
def m_X4_setPrice (μ : Nat → Nat → Int32) (x : Int32) (y : Int32) : Int32 × (Nat → Nat → Int32) := (if (f_X4_isTitle μ x) = 0 then ((-2), μ) else (if (f_X4_in y 100 20000) = 0 then ((-3), μ) else ((f_X4_price (s_X4_saves μ) (tn x)), (shU (s_X4_saves μ) 0 (23 + (2 * (tn x))) y))))
abbrev rm_X4_setPrice : Room := { frames := 2, cells := 0, slots := 0, locals := 44 }
set_option maxRecDepth 100000 in
theorem c_X4_setPrice (l : Launch) (D : va_G) (cI : ClassId) (o : Nat) (a : Nat → Nat) (μ : Nat → Nat → Int32) (hh : Int64) (x : Int32) (y : Int32) (hok : okM μ) :
    Met l yX4_setPrice (Cond.code yX4_setPrice cX4_setPrice 4 (some .int) :: W0) rm_X4_setPrice (va_Pc [.ref o, .int x, .int y] (moM D cI o a μ hh)) (moQ D cI o a hh (m_X4_setPrice μ x y)) 0 0 (moA o a) := by
  refine st_gen (cc := cX4_setPrice) (maxL := 4) (ret := some .int) (own := RX4) (by decide) rfl (Nat.le_of_ble_eq_true rfl) ?_
  intro p e s m below meth c ls C hPre hl
  obtain ⟨hx, hb, hr, hml, hown, hts, hlk⟩ := C
  obtain ⟨⟨hP, hK⟩, hD⟩ := hPre
  have hS : va_S (moA o a) s.heap s.heap [] := va_S.rf
  have hl : lv_has ls 4 [(0, .ref (o)), (1, .int (x)), (2, .int (y))] := hl
  obtain ⟨hT6, hC6, hN6, hS5⟩ := okM_b hok
  refine lv_aload_n hx hb dX4_setPrice_0 rfl (lv_at hl 0 rfl) ?_
  refine lv_iload_n hx hb dX4_setPrice_1 rfl (lv_at hl 1 rfl) ?_
  refine mo_call (rest := []) hx hb hml hown hts hK hP (c_X4_isTitle l D cI o a μ hh x) (kV_X4_isTitle hts ml_X4_65 ⟨(Nat.le_of_ble_eq_true rfl), (Nat.le_of_ble_eq_true rfl)⟩) rfl hl.1 rfl (Nat.le_of_ble_eq_true rfl) dX4_setPrice_2 (Nat.zero_le _) (Nat.zero_le _) ?_
  refine lv_if_ne (tgt := 11) hx hb dX4_setPrice_5 (by decide) (fun c_5 => ?_) (fun c_5 => ?_)
  · have v_5 := isTitle_okm (μ := μ) (by with_reducible assumption) c_5
    have vb_5 := v_5.1
    refine lv_iload_n hx hb dX4_setPrice_11 rfl (lv_at hl 2 rfl) ?_
    refine lv_bipush (v := 100) hx hb dX4_setPrice_12 (by decide) ?_
    refine lv_sipush (v := 20000) hx hb dX4_setPrice_14 (by decide) ?_
    refine cl_S (rest := []) hx hb hml hown hts (c_X4_in l y 100 20000) (kS_X4_in hts ml_X4_30 ⟨(Nat.le_of_ble_eq_true rfl), (Nat.le_of_ble_eq_true rfl)⟩) rfl hl.1 rfl (Nat.le_of_ble_eq_true rfl) dX4_setPrice_17 (Nat.zero_le _) (Nat.zero_le _) ?_
    refine lv_if_ne (tgt := 26) hx hb dX4_setPrice_20 (by decide) (fun c_20 => ?_) (fun c_20 => ?_)
    · have v_20 := inN 20000 c_20 (by decide) rfl (by decide)
      have vb_20 := v_20.1
      refine lv_aload_n hx hb dX4_setPrice_26 rfl (lv_at hl 0 rfl) ?_
      refine mo_callV (rest := []) hx hb hml hown hts hK hP hD hS (c_X4_saves l D cI o a μ hh (by with_reducible assumption)) (kV_X4_saves hts ml_X4_62 ⟨(Nat.le_of_ble_eq_true rfl), (Nat.le_of_ble_eq_true rfl)⟩) rfl hl.1 rfl (Nat.le_of_ble_eq_true rfl) dX4_setPrice_27 (Nat.zero_le _) (Nat.zero_le _) (fun H locs hP hS => ?_)
      have hok_sv := saves_ok (μ := μ) (by with_reducible assumption)
      obtain ⟨hsn, hst, hsc⟩ := saves_n (μ := μ) (by with_reducible assumption)
      refine lv_aload_n hx hb dX4_setPrice_30 rfl (lv_at hl 0 rfl) ?_
      refine lv_iload_n hx hb dX4_setPrice_31 rfl (lv_at hl 1 rfl) ?_
      refine mo_call (rest := []) hx hb hml hown hts hK hP (c_X4_price l D cI o a (s_X4_saves μ) hh x (tn x) v_5.2 (by first | with_reducible assumption | omega)) (kV_X4_price hts ml_X4_38 ⟨(Nat.le_of_ble_eq_true rfl), (Nat.le_of_ble_eq_true rfl)⟩) rfl hl.1 rfl (Nat.le_of_ble_eq_true rfl) dX4_setPrice_32 (Nat.zero_le _) (Nat.zero_le _) ?_
      refine lv_istore_n (lv' := [(3, .int ((f_X4_price (s_X4_saves μ) (tn x)))), (0, .ref (o)), (1, .int (x)), (2, .int (y))]) hx hb dX4_setPrice_35 rfl hl (by decide) rfl (fun ls hl => ?_)
      refine lv_aload_n hx hb dX4_setPrice_36 rfl (lv_at hl 1 rfl) ?_
      refine mo_g0 hx hb hts hown hK hP dX4_setPrice_37 ?_
      refine lv_bipush (v := 23) hx hb dX4_setPrice_40 (by decide) ?_
      refine lv_iconst (v := 2) hx hb dX4_setPrice_42 (by decide) ?_
      refine lv_iload_n hx hb dX4_setPrice_43 rfl (lv_at hl 2 rfl) ?_
      refine lv_imulN (x := 2) (y := tn x) hx hb rfl v_5.2 dX4_setPrice_44 ?_
      refine lv_iaddN (x := 23) (y := (2 * (tn x))) hx hb rfl rfl dX4_setPrice_45 ?_
      refine lv_iload_n hx hb dX4_setPrice_46 rfl (lv_at hl 3 rfl) ?_
      refine mo_w0 hx hb hK hP hD hS ((23 + (2 * (tn x)))) rfl (by omega) dX4_setPrice_47 (fun H locs hP hS => ?_)
      refine lv_iload_n hx hb dX4_setPrice_48 rfl (lv_at hl 0 rfl) ?_
      exact mo_finM hx hb hr hlk hK hP hS (br_n c_5 (br_n c_20 rfl)) dX4_setPrice_49
    refine lv_bipush (v := (-3)) hx hb dX4_setPrice_23 (by decide) ?_
    exact mo_finM hx hb hr hlk hK hP hS (br_n c_5 (br_p c_20 rfl)) dX4_setPrice_25
  refine lv_bipush (v := (-2)) hx hb dX4_setPrice_8 (by decide) ?_
  exact mo_finM hx hb hr hlk hK hP hS (br_p c_5 rfl) dX4_setPrice_10
theorem kV_X4_setPrice {R : Room} {s : State} {args : Array Value} {own : String} {idx : Nat} {c0 : Cond} (hts : ∀ w ∈ c0 :: W0, w.before args s = true) (hl : Cond.methodLink own idx yX4_setPrice ∈ W0) (hR : rm_X4_setPrice.frames + 1 ≤ R.frames ∧ 8 + (4 + 11) + rm_X4_setPrice.locals ≤ R.locals) : CallW R s args own RX4 idx yX4_setPrice cX4_setPrice 4 (some .int) (Cond.code yX4_setPrice cX4_setPrice 4 (some .int) :: W0) rm_X4_setPrice 0 0 2 := cwV 2 hts (gdV hl mi_yX4_setPrice ms_yX4_setPrice mini_X4 mc_yX4_setPrice) rfl rfl rfl (by decide +kernel) hR

/-! X4.newEdition -/
def m_X4_newEdition (μ : Nat → Nat → Int32) (x : Int32) : Int32 × (Nat → Nat → Int32) := (if (f_X4_isTitle μ x) = 0 then ((-2), μ) else (if (f_X4_current μ (tn x)) = 30 then ((-5), μ) else ((f_X4_current (shU (s_X4_saves μ) 0 ((23 + (2 * (tn x))) + 1) (((s_X4_saves μ) 0 ((23 + (2 * (tn x))) + 1)) + 1)) (tn x)), (shU (s_X4_saves μ) 0 ((23 + (2 * (tn x))) + 1) (((s_X4_saves μ) 0 ((23 + (2 * (tn x))) + 1)) + 1)))))
abbrev rm_X4_newEdition : Room := { frames := 2, cells := 0, slots := 0, locals := 44 }
set_option maxRecDepth 100000 in
theorem c_X4_newEdition (l : Launch) (D : va_G) (cI : ClassId) (o : Nat) (a : Nat → Nat) (μ : Nat → Nat → Int32) (hh : Int64) (x : Int32) (hok : okM μ) :
    Met l yX4_newEdition (Cond.code yX4_newEdition cX4_newEdition 2 (some .int) :: W0) rm_X4_newEdition (va_Pc [.ref o, .int x] (moM D cI o a μ hh)) (moQ D cI o a hh (m_X4_newEdition μ x)) 0 0 (moA o a) := by
  refine st_gen (cc := cX4_newEdition) (maxL := 2) (ret := some .int) (own := RX4) (by decide) rfl (Nat.le_of_ble_eq_true rfl) ?_
  intro p e s m below meth c ls C hPre hl
  obtain ⟨hx, hb, hr, hml, hown, hts, hlk⟩ := C
  obtain ⟨⟨hP, hK⟩, hD⟩ := hPre
  have hS : va_S (moA o a) s.heap s.heap [] := va_S.rf
  have hl : lv_has ls 2 [(0, .ref (o)), (1, .int (x))] := hl
  obtain ⟨hT6, hC6, hN6, hS5⟩ := okM_b hok
  refine lv_aload_n hx hb dX4_newEdition_0 rfl (lv_at hl 0 rfl) ?_
  refine lv_iload_n hx hb dX4_newEdition_1 rfl (lv_at hl 1 rfl) ?_
  refine mo_call (rest := []) hx hb hml hown hts hK hP (c_X4_isTitle l D cI o a μ hh x) (kV_X4_isTitle hts ml_X4_65 ⟨(Nat.le_of_ble_eq_true rfl), (Nat.le_of_ble_eq_true rfl)⟩) rfl hl.1 rfl (Nat.le_of_ble_eq_true rfl) dX4_newEdition_2 (Nat.zero_le _) (Nat.zero_le _) ?_
  refine lv_if_ne (tgt := 11) hx hb dX4_newEdition_5 (by decide) (fun c_5 => ?_) (fun c_5 => ?_)
  · have v_5 := isTitle_okm (μ := μ) (by with_reducible assumption) c_5
    have vb_5 := v_5.1
    refine lv_aload_n hx hb dX4_newEdition_11 rfl (lv_at hl 0 rfl) ?_
    refine lv_iload_n hx hb dX4_newEdition_12 rfl (lv_at hl 1 rfl) ?_
    refine mo_call (rest := []) hx hb hml hown hts hK hP (c_X4_current l D cI o a μ hh x (tn x) v_5.2 (by first | with_reducible assumption | omega)) (kV_X4_current hts ml_X4_42 ⟨(Nat.le_of_ble_eq_true rfl), (Nat.le_of_ble_eq_true rfl)⟩) rfl hl.1 rfl (Nat.le_of_ble_eq_true rfl) dX4_newEdition_13 (Nat.zero_le _) (Nat.zero_le _) ?_
    refine lv_bipush (v := 30) hx hb dX4_newEdition_16 (by decide) ?_
    refine lv_icmp_ne (tgt := 24) hx hb dX4_newEdition_18 (by decide) (fun c_18 => ?_) (fun c_18 => ?_)
    · refine lv_aload_n hx hb dX4_newEdition_24 rfl (lv_at hl 0 rfl) ?_
      refine mo_callV (rest := []) hx hb hml hown hts hK hP hD hS (c_X4_saves l D cI o a μ hh (by with_reducible assumption)) (kV_X4_saves hts ml_X4_62 ⟨(Nat.le_of_ble_eq_true rfl), (Nat.le_of_ble_eq_true rfl)⟩) rfl hl.1 rfl (Nat.le_of_ble_eq_true rfl) dX4_newEdition_25 (Nat.zero_le _) (Nat.zero_le _) (fun H locs hP hS => ?_)
      have hok_sv := saves_ok (μ := μ) (by with_reducible assumption)
      obtain ⟨hsn, hst, hsc⟩ := saves_n (μ := μ) (by with_reducible assumption)
      refine lv_aload_n hx hb dX4_newEdition_28 rfl (lv_at hl 0 rfl) ?_
      refine mo_g0 hx hb hts hown hK hP dX4_newEdition_29 ?_
      refine lv_bipush (v := 23) hx hb dX4_newEdition_32 (by decide) ?_
      refine lv_iconst (v := 2) hx hb dX4_newEdition_34 (by decide) ?_
      refine lv_iload_n hx hb dX4_newEdition_35 rfl (lv_at hl 1 rfl) ?_
      refine lv_imulN (x := 2) (y := tn x) hx hb rfl v_5.2 dX4_newEdition_36 ?_
      refine lv_iaddN (x := 23) (y := (2 * (tn x))) hx hb rfl rfl dX4_newEdition_37 ?_
      refine lv_iconst (v := 1) hx hb dX4_newEdition_38 (by decide) ?_
      refine lv_iaddN (x := (23 + (2 * (tn x)))) (y := 1) hx hb rfl rfl dX4_newEdition_39 ?_
      refine lv_dup2_11 hx hb dX4_newEdition_40 rfl rfl ?_
      refine mo_r0 hx hb hK hP (((23 + (2 * (tn x))) + 1)) rfl (by omega) (v := (s_X4_saves μ) 0 ((23 + (2 * (tn x))) + 1)) rfl dX4_newEdition_41 ?_
      refine lv_iconst (v := 1) hx hb dX4_newEdition_42 (by decide) ?_
      refine lv_iadd hx hb dX4_newEdition_43 ?_
      refine mo_w0 hx hb hK hP hD hS (((23 + (2 * (tn x))) + 1)) rfl (by omega) dX4_newEdition_44 (fun H locs hP hS => ?_)
      refine lv_aload_n hx hb dX4_newEdition_45 rfl (lv_at hl 0 rfl) ?_
      refine lv_iload_n hx hb dX4_newEdition_46 rfl (lv_at hl 1 rfl) ?_
      refine mo_call (rest := []) hx hb hml hown hts hK hP (c_X4_current l D cI o a (shU (s_X4_saves μ) 0 ((23 + (2 * (tn x))) + 1) (((s_X4_saves μ) 0 ((23 + (2 * (tn x))) + 1)) + 1)) hh x (tn x) v_5.2 (by first | with_reducible assumption | omega)) (kV_X4_current hts ml_X4_42 ⟨(Nat.le_of_ble_eq_true rfl), (Nat.le_of_ble_eq_true rfl)⟩) rfl hl.1 rfl (Nat.le_of_ble_eq_true rfl) dX4_newEdition_47 (Nat.zero_le _) (Nat.zero_le _) ?_
      exact mo_finM hx hb hr hlk hK hP hS (br_n c_5 (br_n c_18 rfl)) dX4_newEdition_50
    refine lv_bipush (v := (-5)) hx hb dX4_newEdition_21 (by decide) ?_
    exact mo_finM hx hb hr hlk hK hP hS (br_n c_5 (br_p c_18 rfl)) dX4_newEdition_23
  refine lv_bipush (v := (-2)) hx hb dX4_newEdition_8 (by decide) ?_
  exact mo_finM hx hb hr hlk hK hP hS (br_p c_5 rfl) dX4_newEdition_10
theorem kV_X4_newEdition {R : Room} {s : State} {args : Array Value} {own : String} {idx : Nat} {c0 : Cond} (hts : ∀ w ∈ c0 :: W0, w.before args s = true) (hl : Cond.methodLink own idx yX4_newEdition ∈ W0) (hR : rm_X4_newEdition.frames + 1 ≤ R.frames ∧ 8 + (2 + 11) + rm_X4_newEdition.locals ≤ R.locals) : CallW R s args own RX4 idx yX4_newEdition cX4_newEdition 2 (some .int) (Cond.code yX4_newEdition cX4_newEdition 2 (some .int) :: W0) rm_X4_newEdition 0 0 1 := cwV 1 hts (gdV hl mi_yX4_newEdition ms_yX4_newEdition mini_X4 mc_yX4_newEdition) rfl rfl rfl (by decide +kernel) hR

/-! X4.addCourse -/
def m_X4_addCourse (μ : Nat → Nat → Int32) (x : Int32) (y : Int32) (z : Int32) : Int32 × (Nat → Nat → Int32) := (if (f_X4_isTitle μ x) = 0 then ((-2), μ) else (if (f_X4_isCourseLike y z) = 0 then ((-3), μ) else (if (μ 0 2) = 6 then ((-5), μ) else ((((s_X4_saves μ) 0 2) + 1) - 1, (shU (shU (shU (shU (s_X4_saves μ) 0 (35 + (3 * (mC (s_X4_saves μ)))) x) 0 ((35 + (3 * (mC (s_X4_saves μ)))) + 1) y) 0 ((35 + (3 * (mC (s_X4_saves μ)))) + 2) z) 0 2 (((s_X4_saves μ) 0 2) + 1))))))
abbrev rm_X4_addCourse : Room := { frames := 2, cells := 0, slots := 0, locals := 44 }
set_option maxRecDepth 100000 in
theorem c_X4_addCourse (l : Launch) (D : va_G) (cI : ClassId) (o : Nat) (a : Nat → Nat) (μ : Nat → Nat → Int32) (hh : Int64) (x : Int32) (y : Int32) (z : Int32) (hok : okM μ) :
    Met l yX4_addCourse (Cond.code yX4_addCourse cX4_addCourse 5 (some .int) :: W0) rm_X4_addCourse (va_Pc [.ref o, .int x, .int y, .int z] (moM D cI o a μ hh)) (moQ D cI o a hh (m_X4_addCourse μ x y z)) 0 0 (moA o a) := by
  refine st_gen (cc := cX4_addCourse) (maxL := 5) (ret := some .int) (own := RX4) (by decide) rfl (Nat.le_of_ble_eq_true rfl) ?_
  intro p e s m below meth c ls C hPre hl
  obtain ⟨hx, hb, hr, hml, hown, hts, hlk⟩ := C
  obtain ⟨⟨hP, hK⟩, hD⟩ := hPre
  have hS : va_S (moA o a) s.heap s.heap [] := va_S.rf
  have hl : lv_has ls 5 [(0, .ref (o)), (1, .int (x)), (2, .int (y)), (3, .int (z))] := hl
  obtain ⟨hT6, hC6, hN6, hS5⟩ := okM_b hok
  refine lv_aload_n hx hb dX4_addCourse_0 rfl (lv_at hl 0 rfl) ?_
  refine lv_iload_n hx hb dX4_addCourse_1 rfl (lv_at hl 1 rfl) ?_
  refine mo_call (rest := []) hx hb hml hown hts hK hP (c_X4_isTitle l D cI o a μ hh x) (kV_X4_isTitle hts ml_X4_65 ⟨(Nat.le_of_ble_eq_true rfl), (Nat.le_of_ble_eq_true rfl)⟩) rfl hl.1 rfl (Nat.le_of_ble_eq_true rfl) dX4_addCourse_2 (Nat.zero_le _) (Nat.zero_le _) ?_
  refine lv_if_ne (tgt := 11) hx hb dX4_addCourse_5 (by decide) (fun c_5 => ?_) (fun c_5 => ?_)
  · have v_5 := isTitle_okm (μ := μ) (by with_reducible assumption) c_5
    have vb_5 := v_5.1
    refine lv_iload_n hx hb dX4_addCourse_11 rfl (lv_at hl 2 rfl) ?_
    refine lv_iload_n hx hb dX4_addCourse_12 rfl (lv_at hl 3 rfl) ?_
    refine cl_S (rest := []) hx hb hml hown hts (c_X4_isCourseLike l y z) (kS_X4_isCourseLike hts ml_X4_69 ⟨(Nat.le_of_ble_eq_true rfl), (Nat.le_of_ble_eq_true rfl)⟩) rfl hl.1 rfl (Nat.le_of_ble_eq_true rfl) dX4_addCourse_13 (Nat.zero_le _) (Nat.zero_le _) ?_
    refine lv_if_ne (tgt := 22) hx hb dX4_addCourse_16 (by decide) (fun c_16 => ?_) (fun c_16 => ?_)
    · refine lv_aload_n hx hb dX4_addCourse_22 rfl (lv_at hl 0 rfl) ?_
      refine mo_g0 hx hb hts hown hK hP dX4_addCourse_23 ?_
      refine lv_iconst (v := 2) hx hb dX4_addCourse_26 (by decide) ?_
      refine mo_r0 hx hb hK hP (2) rfl (by omega) (v := μ 0 2) rfl dX4_addCourse_27 ?_
      refine lv_bipush (v := 6) hx hb dX4_addCourse_28 (by decide) ?_
      refine lv_icmp_ne (tgt := 36) hx hb dX4_addCourse_30 (by decide) (fun c_30 => ?_) (fun c_30 => ?_)
      · refine lv_aload_n hx hb dX4_addCourse_36 rfl (lv_at hl 0 rfl) ?_
        refine mo_callV (rest := []) hx hb hml hown hts hK hP hD hS (c_X4_saves l D cI o a μ hh (by with_reducible assumption)) (kV_X4_saves hts ml_X4_62 ⟨(Nat.le_of_ble_eq_true rfl), (Nat.le_of_ble_eq_true rfl)⟩) rfl hl.1 rfl (Nat.le_of_ble_eq_true rfl) dX4_addCourse_37 (Nat.zero_le _) (Nat.zero_le _) (fun H locs hP hS => ?_)
        have hok_sv := saves_ok (μ := μ) (by with_reducible assumption)
        obtain ⟨hsn, hst, hsc⟩ := saves_n (μ := μ) (by with_reducible assumption)
        refine lv_bipush (v := 35) hx hb dX4_addCourse_40 (by decide) ?_
        refine lv_iconst (v := 3) hx hb dX4_addCourse_42 (by decide) ?_
        refine lv_aload_n hx hb dX4_addCourse_43 rfl (lv_at hl 0 rfl) ?_
        refine mo_g0 hx hb hts hown hK hP dX4_addCourse_44 ?_
        refine lv_iconst (v := 2) hx hb dX4_addCourse_47 (by decide) ?_
        refine mo_r0 hx hb hK hP (2) rfl (by omega) (v := (s_X4_saves μ) 0 2) rfl dX4_addCourse_48 ?_
        refine lv_imulN (x := 3) (y := mC (s_X4_saves μ)) hx hb rfl (okM_2 (μ := (s_X4_saves μ)) (by with_reducible assumption)) dX4_addCourse_49 ?_
        refine lv_iaddN (x := 35) (y := (3 * (mC (s_X4_saves μ)))) hx hb rfl rfl dX4_addCourse_50 ?_
        refine lv_istore (lv' := [(4, .int (nI (35 + (3 * (mC (s_X4_saves μ)))))), (0, .ref (o)), (1, .int (x)), (2, .int (y)), (3, .int (z))]) hx hb dX4_addCourse_51 hl (by decide) rfl (fun ls hl => ?_)
        refine lv_aload_n hx hb dX4_addCourse_53 rfl (lv_at hl 1 rfl) ?_
        refine mo_g0 hx hb hts hown hK hP dX4_addCourse_54 ?_
        refine lv_iload hx hb dX4_addCourse_57 (lv_at hl 0 rfl) ?_
        refine lv_iload_n hx hb dX4_addCourse_59 rfl (lv_at hl 2 rfl) ?_
        refine mo_w0 hx hb hK hP hD hS ((35 + (3 * (mC (s_X4_saves μ))))) rfl (by omega) dX4_addCourse_60 (fun H locs hP hS => ?_)
        refine lv_aload_n hx hb dX4_addCourse_61 rfl (lv_at hl 1 rfl) ?_
        refine mo_g0 hx hb hts hown hK hP dX4_addCourse_62 ?_
        refine lv_iload hx hb dX4_addCourse_65 (lv_at hl 0 rfl) ?_
        refine lv_iconst (v := 1) hx hb dX4_addCourse_67 (by decide) ?_
        refine lv_iaddN (x := (35 + (3 * (mC (s_X4_saves μ))))) (y := 1) hx hb rfl rfl dX4_addCourse_68 ?_
        refine lv_iload_n hx hb dX4_addCourse_69 rfl (lv_at hl 3 rfl) ?_
        refine mo_w0 hx hb hK hP hD hS (((35 + (3 * (mC (s_X4_saves μ)))) + 1)) rfl (by omega) dX4_addCourse_70 (fun H locs hP hS => ?_)
        refine lv_aload_n hx hb dX4_addCourse_71 rfl (lv_at hl 1 rfl) ?_
        refine mo_g0 hx hb hts hown hK hP dX4_addCourse_72 ?_
        refine lv_iload hx hb dX4_addCourse_75 (lv_at hl 0 rfl) ?_
        refine lv_iconst (v := 2) hx hb dX4_addCourse_77 (by decide) ?_
        refine lv_iaddN (x := (35 + (3 * (mC (s_X4_saves μ))))) (y := 2) hx hb rfl rfl dX4_addCourse_78 ?_
        refine lv_iload_n hx hb dX4_addCourse_79 rfl (lv_at hl 4 rfl) ?_
        refine mo_w0 hx hb hK hP hD hS (((35 + (3 * (mC (s_X4_saves μ)))) + 2)) rfl (by omega) dX4_addCourse_80 (fun H locs hP hS => ?_)
        refine lv_aload_n hx hb dX4_addCourse_81 rfl (lv_at hl 1 rfl) ?_
        refine mo_g0 hx hb hts hown hK hP dX4_addCourse_82 ?_
        refine lv_iconst (v := 2) hx hb dX4_addCourse_85 (by decide) ?_
        refine lv_dup2_11 hx hb dX4_addCourse_86 rfl rfl ?_
        refine mo_r0 hx hb hK hP (2) rfl (by omega) (v := (s_X4_saves μ) 0 2) ((shU_ne (σ := (shU (shU (s_X4_saves μ) 0 (35 + (3 * (mC (s_X4_saves μ)))) x) 0 ((35 + (3 * (mC (s_X4_saves μ)))) + 1) y)) (by omega)).trans ((shU_ne (σ := (shU (s_X4_saves μ) 0 (35 + (3 * (mC (s_X4_saves μ)))) x)) (by omega)).trans (shU_ne (σ := (s_X4_saves μ)) (by omega)))) dX4_addCourse_87 ?_
        refine lv_iconst (v := 1) hx hb dX4_addCourse_88 (by decide) ?_
        refine lv_iadd hx hb dX4_addCourse_89 ?_
        refine mo_w0 hx hb hK hP hD hS (2) rfl (by omega) dX4_addCourse_90 (fun H locs hP hS => ?_)
        refine lv_aload_n hx hb dX4_addCourse_91 rfl (lv_at hl 1 rfl) ?_
        refine mo_g0 hx hb hts hown hK hP dX4_addCourse_92 ?_
        refine lv_iconst (v := 2) hx hb dX4_addCourse_95 (by decide) ?_
        refine mo_r0 hx hb hK hP (2) rfl (by omega) (v := ((s_X4_saves μ) 0 2) + 1) shU_eq dX4_addCourse_96 ?_
        refine lv_iconst (v := 1) hx hb dX4_addCourse_97 (by decide) ?_
        refine lv_isub hx hb dX4_addCourse_98 ?_
        exact mo_finM hx hb hr hlk hK hP hS (br_n c_5 (br_n c_16 (br_n c_30 rfl))) dX4_addCourse_99
      refine lv_bipush (v := (-5)) hx hb dX4_addCourse_33 (by decide) ?_
      exact mo_finM hx hb hr hlk hK hP hS (br_n c_5 (br_n c_16 (br_p c_30 rfl))) dX4_addCourse_35
    refine lv_bipush (v := (-3)) hx hb dX4_addCourse_19 (by decide) ?_
    exact mo_finM hx hb hr hlk hK hP hS (br_n c_5 (br_p c_16 rfl)) dX4_addCourse_21
  refine lv_bipush (v := (-2)) hx hb dX4_addCourse_8 (by decide) ?_
  exact mo_finM hx hb hr hlk hK hP hS (br_p c_5 rfl) dX4_addCourse_10
theorem kV_X4_addCourse {R : Room} {s : State} {args : Array Value} {own : String} {idx : Nat} {c0 : Cond} (hts : ∀ w ∈ c0 :: W0, w.before args s = true) (hl : Cond.methodLink own idx yX4_addCourse ∈ W0) (hR : rm_X4_addCourse.frames + 1 ≤ R.frames ∧ 8 + (5 + 11) + rm_X4_addCourse.locals ≤ R.locals) : CallW R s args own RX4 idx yX4_addCourse cX4_addCourse 5 (some .int) (Cond.code yX4_addCourse cX4_addCourse 5 (some .int) :: W0) rm_X4_addCourse 0 0 3 := cwV 3 hts (gdV hl mi_yX4_addCourse ms_yX4_addCourse mini_X4 mc_yX4_addCourse) rfl rfl rfl (by decide +kernel) hR

/-! X4.setCourse -/
def m_X4_setCourse (μ : Nat → Nat → Int32) (x : Int32) (y : Int32) (z : Int32) : Int32 × (Nat → Nat → Int32) := (if (f_X4_isCourse μ x) = 0 then ((-2), μ) else (if (f_X4_isCourseLike y z) = 0 then ((-3), μ) else ((f_X4_ofCourse (s_X4_saves μ) (tn x) 2), (shU (shU (s_X4_saves μ) 0 ((35 + (3 * (tn x))) + 1) y) 0 ((35 + (3 * (tn x))) + 2) z))))
abbrev rm_X4_setCourse : Room := { frames := 2, cells := 0, slots := 0, locals := 44 }
set_option maxRecDepth 100000 in
theorem c_X4_setCourse (l : Launch) (D : va_G) (cI : ClassId) (o : Nat) (a : Nat → Nat) (μ : Nat → Nat → Int32) (hh : Int64) (x : Int32) (y : Int32) (z : Int32) (hok : okM μ) :
    Met l yX4_setCourse (Cond.code yX4_setCourse cX4_setCourse 5 (some .int) :: W0) rm_X4_setCourse (va_Pc [.ref o, .int x, .int y, .int z] (moM D cI o a μ hh)) (moQ D cI o a hh (m_X4_setCourse μ x y z)) 0 0 (moA o a) := by
  refine st_gen (cc := cX4_setCourse) (maxL := 5) (ret := some .int) (own := RX4) (by decide) rfl (Nat.le_of_ble_eq_true rfl) ?_
  intro p e s m below meth c ls C hPre hl
  obtain ⟨hx, hb, hr, hml, hown, hts, hlk⟩ := C
  obtain ⟨⟨hP, hK⟩, hD⟩ := hPre
  have hS : va_S (moA o a) s.heap s.heap [] := va_S.rf
  have hl : lv_has ls 5 [(0, .ref (o)), (1, .int (x)), (2, .int (y)), (3, .int (z))] := hl
  obtain ⟨hT6, hC6, hN6, hS5⟩ := okM_b hok
  refine lv_aload_n hx hb dX4_setCourse_0 rfl (lv_at hl 0 rfl) ?_
  refine lv_iload_n hx hb dX4_setCourse_1 rfl (lv_at hl 1 rfl) ?_
  refine mo_call (rest := []) hx hb hml hown hts hK hP (c_X4_isCourse l D cI o a μ hh x) (kV_X4_isCourse hts ml_X4_72 ⟨(Nat.le_of_ble_eq_true rfl), (Nat.le_of_ble_eq_true rfl)⟩) rfl hl.1 rfl (Nat.le_of_ble_eq_true rfl) dX4_setCourse_2 (Nat.zero_le _) (Nat.zero_le _) ?_
  refine lv_if_ne (tgt := 11) hx hb dX4_setCourse_5 (by decide) (fun c_5 => ?_) (fun c_5 => ?_)
  · have v_5 := isCourse_okm (μ := μ) (by with_reducible assumption) c_5
    have vb_5 := v_5.1
    refine lv_iload_n hx hb dX4_setCourse_11 rfl (lv_at hl 2 rfl) ?_
    refine lv_iload_n hx hb dX4_setCourse_12 rfl (lv_at hl 3 rfl) ?_
    refine cl_S (rest := []) hx hb hml hown hts (c_X4_isCourseLike l y z) (kS_X4_isCourseLike hts ml_X4_69 ⟨(Nat.le_of_ble_eq_true rfl), (Nat.le_of_ble_eq_true rfl)⟩) rfl hl.1 rfl (Nat.le_of_ble_eq_true rfl) dX4_setCourse_13 (Nat.zero_le _) (Nat.zero_le _) ?_
    refine lv_if_ne (tgt := 22) hx hb dX4_setCourse_16 (by decide) (fun c_16 => ?_) (fun c_16 => ?_)
    · refine lv_aload_n hx hb dX4_setCourse_22 rfl (lv_at hl 0 rfl) ?_
      refine mo_callV (rest := []) hx hb hml hown hts hK hP hD hS (c_X4_saves l D cI o a μ hh (by with_reducible assumption)) (kV_X4_saves hts ml_X4_62 ⟨(Nat.le_of_ble_eq_true rfl), (Nat.le_of_ble_eq_true rfl)⟩) rfl hl.1 rfl (Nat.le_of_ble_eq_true rfl) dX4_setCourse_23 (Nat.zero_le _) (Nat.zero_le _) (fun H locs hP hS => ?_)
      have hok_sv := saves_ok (μ := μ) (by with_reducible assumption)
      obtain ⟨hsn, hst, hsc⟩ := saves_n (μ := μ) (by with_reducible assumption)
      refine lv_aload_n hx hb dX4_setCourse_26 rfl (lv_at hl 0 rfl) ?_
      refine lv_iload_n hx hb dX4_setCourse_27 rfl (lv_at hl 1 rfl) ?_
      refine lv_iconst (v := 2) hx hb dX4_setCourse_28 (by decide) ?_
      refine mo_call (rest := []) hx hb hml hown hts hK hP (c_X4_ofCourse l D cI o a (s_X4_saves μ) hh x (tn x) v_5.2 2 2 rfl (by first | with_reducible assumption | omega)) (kV_X4_ofCourse hts ml_X4_52 ⟨(Nat.le_of_ble_eq_true rfl), (Nat.le_of_ble_eq_true rfl)⟩) rfl hl.1 rfl (Nat.le_of_ble_eq_true rfl) dX4_setCourse_29 (Nat.zero_le _) (Nat.zero_le _) ?_
      refine lv_istore (lv' := [(4, .int ((f_X4_ofCourse (s_X4_saves μ) (tn x) 2))), (0, .ref (o)), (1, .int (x)), (2, .int (y)), (3, .int (z))]) hx hb dX4_setCourse_32 hl (by decide) rfl (fun ls hl => ?_)
      refine lv_aload_n hx hb dX4_setCourse_34 rfl (lv_at hl 1 rfl) ?_
      refine mo_g0 hx hb hts hown hK hP dX4_setCourse_35 ?_
      refine lv_bipush (v := 35) hx hb dX4_setCourse_38 (by decide) ?_
      refine lv_iconst (v := 3) hx hb dX4_setCourse_40 (by decide) ?_
      refine lv_iload_n hx hb dX4_setCourse_41 rfl (lv_at hl 2 rfl) ?_
      refine lv_imulN (x := 3) (y := tn x) hx hb rfl v_5.2 dX4_setCourse_42 ?_
      refine lv_iaddN (x := 35) (y := (3 * (tn x))) hx hb rfl rfl dX4_setCourse_43 ?_
      refine lv_iconst (v := 1) hx hb dX4_setCourse_44 (by decide) ?_
      refine lv_iaddN (x := (35 + (3 * (tn x)))) (y := 1) hx hb rfl rfl dX4_setCourse_45 ?_
      refine lv_iload_n hx hb dX4_setCourse_46 rfl (lv_at hl 3 rfl) ?_
      refine mo_w0 hx hb hK hP hD hS (((35 + (3 * (tn x))) + 1)) rfl (by omega) dX4_setCourse_47 (fun H locs hP hS => ?_)
      refine lv_aload_n hx hb dX4_setCourse_48 rfl (lv_at hl 1 rfl) ?_
      refine mo_g0 hx hb hts hown hK hP dX4_setCourse_49 ?_
      refine lv_bipush (v := 35) hx hb dX4_setCourse_52 (by decide) ?_
      refine lv_iconst (v := 3) hx hb dX4_setCourse_54 (by decide) ?_
      refine lv_iload_n hx hb dX4_setCourse_55 rfl (lv_at hl 2 rfl) ?_
      refine lv_imulN (x := 3) (y := tn x) hx hb rfl v_5.2 dX4_setCourse_56 ?_
      refine lv_iaddN (x := 35) (y := (3 * (tn x))) hx hb rfl rfl dX4_setCourse_57 ?_
      refine lv_iconst (v := 2) hx hb dX4_setCourse_58 (by decide) ?_
      refine lv_iaddN (x := (35 + (3 * (tn x)))) (y := 2) hx hb rfl rfl dX4_setCourse_59 ?_
      refine lv_iload_n hx hb dX4_setCourse_60 rfl (lv_at hl 4 rfl) ?_
      refine mo_w0 hx hb hK hP hD hS (((35 + (3 * (tn x))) + 2)) rfl (by omega) dX4_setCourse_61 (fun H locs hP hS => ?_)
      refine lv_iload hx hb dX4_setCourse_62 (lv_at hl 0 rfl) ?_
      exact mo_finM hx hb hr hlk hK hP hS (br_n c_5 (br_n c_16 rfl)) dX4_setCourse_64
    refine lv_bipush (v := (-3)) hx hb dX4_setCourse_19 (by decide) ?_
    exact mo_finM hx hb hr hlk hK hP hS (br_n c_5 (br_p c_16 rfl)) dX4_setCourse_21
  refine lv_bipush (v := (-2)) hx hb dX4_setCourse_8 (by decide) ?_
  exact mo_finM hx hb hr hlk hK hP hS (br_p c_5 rfl) dX4_setCourse_10
theorem kV_X4_setCourse {R : Room} {s : State} {args : Array Value} {own : String} {idx : Nat} {c0 : Cond} (hts : ∀ w ∈ c0 :: W0, w.before args s = true) (hl : Cond.methodLink own idx yX4_setCourse ∈ W0) (hR : rm_X4_setCourse.frames + 1 ≤ R.frames ∧ 8 + (5 + 11) + rm_X4_setCourse.locals ≤ R.locals) : CallW R s args own RX4 idx yX4_setCourse cX4_setCourse 5 (some .int) (Cond.code yX4_setCourse cX4_setCourse 5 (some .int) :: W0) rm_X4_setCourse 0 0 3 := cwV 3 hts (gdV hl mi_yX4_setCourse ms_yX4_setCourse mini_X4 mc_yX4_setCourse) rfl rfl rfl (by decide +kernel) hR

/-! X4.set -/
def m_X4_set (μ : Nat → Nat → Int32) (x : Int32) (y : Int32) : Int32 × (Nat → Nat → Int32) := (if (f_X4_in x 0 3) = 0 then ((-2), μ) else (if (f_X4_in y (μ 2 (tn x)) (μ 3 (tn x))) = 0 then ((-3), μ) else ((s_X4_saves μ) 0 (4 + (tn x)), (shU (s_X4_saves μ) 0 (4 + (tn x)) y))))
abbrev rm_X4_set : Room := { frames := 2, cells := 0, slots := 0, locals := 44 }
set_option maxRecDepth 100000 in
theorem c_X4_set (l : Launch) (D : va_G) (cI : ClassId) (o : Nat) (a : Nat → Nat) (μ : Nat → Nat → Int32) (hh : Int64) (x : Int32) (y : Int32) (hok : okM μ) :
    Met l yX4_set (Cond.code yX4_set cX4_set 4 (some .int) :: W0) rm_X4_set (va_Pc [.ref o, .int x, .int y] (moM D cI o a μ hh)) (moQ D cI o a hh (m_X4_set μ x y)) 0 0 (moA o a) := by
  refine st_gen (cc := cX4_set) (maxL := 4) (ret := some .int) (own := RX4) (by decide) rfl (Nat.le_of_ble_eq_true rfl) ?_
  intro p e s m below meth c ls C hPre hl
  obtain ⟨hx, hb, hr, hml, hown, hts, hlk⟩ := C
  obtain ⟨⟨hP, hK⟩, hD⟩ := hPre
  have hS : va_S (moA o a) s.heap s.heap [] := va_S.rf
  have hl : lv_has ls 4 [(0, .ref (o)), (1, .int (x)), (2, .int (y))] := hl
  obtain ⟨hT6, hC6, hN6, hS5⟩ := okM_b hok
  refine lv_iload_n hx hb dX4_set_0 rfl (lv_at hl 1 rfl) ?_
  refine lv_iconst (v := 0) hx hb dX4_set_1 (by decide) ?_
  refine lv_iconst (v := 3) hx hb dX4_set_2 (by decide) ?_
  refine cl_S (rest := []) hx hb hml hown hts (c_X4_in l x 0 3) (kS_X4_in hts ml_X4_30 ⟨(Nat.le_of_ble_eq_true rfl), (Nat.le_of_ble_eq_true rfl)⟩) rfl hl.1 rfl (Nat.le_of_ble_eq_true rfl) dX4_set_3 (Nat.zero_le _) (Nat.zero_le _) ?_
  refine lv_if_ne (tgt := 12) hx hb dX4_set_6 (by decide) (fun c_6 => ?_) (fun c_6 => ?_)
  · have v_6 := inN 3 c_6 (by decide) rfl (by decide)
    have vb_6 := v_6.1
    refine lv_iload_n hx hb dX4_set_12 rfl (lv_at hl 2 rfl) ?_
    refine lv_aload_n hx hb dX4_set_13 rfl (lv_at hl 0 rfl) ?_
    refine mo_g2 hx hb hts hown hK hP dX4_set_14 ?_
    refine lv_iload_n hx hb dX4_set_17 rfl (lv_at hl 1 rfl) ?_
    refine mo_r2 hx hb hK hP (tn x) v_6.2 (by omega) (v := μ 2 (tn x)) rfl dX4_set_18 ?_
    refine lv_aload_n hx hb dX4_set_19 rfl (lv_at hl 0 rfl) ?_
    refine mo_g3 hx hb hts hown hK hP dX4_set_20 ?_
    refine lv_iload_n hx hb dX4_set_23 rfl (lv_at hl 1 rfl) ?_
    refine mo_r3 hx hb hK hP (tn x) v_6.2 (by omega) (v := μ 3 (tn x)) rfl dX4_set_24 ?_
    refine cl_S (rest := []) hx hb hml hown hts (c_X4_in l y (μ 2 (tn x)) (μ 3 (tn x))) (kS_X4_in hts ml_X4_30 ⟨(Nat.le_of_ble_eq_true rfl), (Nat.le_of_ble_eq_true rfl)⟩) rfl hl.1 rfl (Nat.le_of_ble_eq_true rfl) dX4_set_25 (Nat.zero_le _) (Nat.zero_le _) ?_
    refine lv_if_ne (tgt := 34) hx hb dX4_set_28 (by decide) (fun c_28 => ?_) (fun c_28 => ?_)
    · refine lv_aload_n hx hb dX4_set_34 rfl (lv_at hl 0 rfl) ?_
      refine mo_callV (rest := []) hx hb hml hown hts hK hP hD hS (c_X4_saves l D cI o a μ hh (by with_reducible assumption)) (kV_X4_saves hts ml_X4_62 ⟨(Nat.le_of_ble_eq_true rfl), (Nat.le_of_ble_eq_true rfl)⟩) rfl hl.1 rfl (Nat.le_of_ble_eq_true rfl) dX4_set_35 (Nat.zero_le _) (Nat.zero_le _) (fun H locs hP hS => ?_)
      have hok_sv := saves_ok (μ := μ) (by with_reducible assumption)
      obtain ⟨hsn, hst, hsc⟩ := saves_n (μ := μ) (by with_reducible assumption)
      refine lv_aload_n hx hb dX4_set_38 rfl (lv_at hl 0 rfl) ?_
      refine mo_g0 hx hb hts hown hK hP dX4_set_39 ?_
      refine lv_iconst (v := 4) hx hb dX4_set_42 (by decide) ?_
      refine lv_iload_n hx hb dX4_set_43 rfl (lv_at hl 1 rfl) ?_
      refine lv_iaddN (x := 4) (y := tn x) hx hb rfl v_6.2 dX4_set_44 ?_
      refine mo_r0 hx hb hK hP ((4 + (tn x))) rfl (by omega) (v := (s_X4_saves μ) 0 (4 + (tn x))) rfl dX4_set_45 ?_
      refine lv_istore_n (lv' := [(3, .int ((s_X4_saves μ) 0 (4 + (tn x)))), (0, .ref (o)), (1, .int (x)), (2, .int (y))]) hx hb dX4_set_46 rfl hl (by decide) rfl (fun ls hl => ?_)
      refine lv_aload_n hx hb dX4_set_47 rfl (lv_at hl 1 rfl) ?_
      refine mo_g0 hx hb hts hown hK hP dX4_set_48 ?_
      refine lv_iconst (v := 4) hx hb dX4_set_51 (by decide) ?_
      refine lv_iload_n hx hb dX4_set_52 rfl (lv_at hl 2 rfl) ?_
      refine lv_iaddN (x := 4) (y := tn x) hx hb rfl v_6.2 dX4_set_53 ?_
      refine lv_iload_n hx hb dX4_set_54 rfl (lv_at hl 3 rfl) ?_
      refine mo_w0 hx hb hK hP hD hS ((4 + (tn x))) rfl (by omega) dX4_set_55 (fun H locs hP hS => ?_)
      refine lv_iload_n hx hb dX4_set_56 rfl (lv_at hl 0 rfl) ?_
      exact mo_finM hx hb hr hlk hK hP hS (br_n c_6 (br_n c_28 rfl)) dX4_set_57
    refine lv_bipush (v := (-3)) hx hb dX4_set_31 (by decide) ?_
    exact mo_finM hx hb hr hlk hK hP hS (br_n c_6 (br_p c_28 rfl)) dX4_set_33
  refine lv_bipush (v := (-2)) hx hb dX4_set_9 (by decide) ?_
  exact mo_finM hx hb hr hlk hK hP hS (br_p c_6 rfl) dX4_set_11
theorem kV_X4_set {R : Room} {s : State} {args : Array Value} {own : String} {idx : Nat} {c0 : Cond} (hts : ∀ w ∈ c0 :: W0, w.before args s = true) (hl : Cond.methodLink own idx yX4_set ∈ W0) (hR : rm_X4_set.frames + 1 ≤ R.frames ∧ 8 + (4 + 11) + rm_X4_set.locals ≤ R.locals) : CallW R s args own RX4 idx yX4_set cX4_set 4 (some .int) (Cond.code yX4_set cX4_set 4 (some .int) :: W0) rm_X4_set 0 0 2 := cwV 2 hts (gdV hl mi_yX4_set ms_yX4_set mini_X4 mc_yX4_set) rfl rfl rfl (by decide +kernel) hR

/-! X4.buy -/
def m_X4_buy (μ : Nat → Nat → Int32) (x : Int32) (y : Int32) : Int32 × (Nat → Nat → Int32) := (if (f_X4_cannotBuy μ x y) = 0 then ((m_X4_buys (s_X4_saves μ) (tn x) (tn y)).1, (m_X4_buys (s_X4_saves μ) (tn x) (tn y)).2) else ((f_X4_cannotBuy μ x y), μ))
abbrev rm_X4_buy : Room := { frames := 3, cells := 0, slots := 0, locals := 71 }
set_option maxRecDepth 100000 in
theorem c_X4_buy (l : Launch) (D : va_G) (cI : ClassId) (o : Nat) (a : Nat → Nat) (μ : Nat → Nat → Int32) (hh : Int64) (x : Int32) (y : Int32) (hok : okM μ) :
    Met l yX4_buy (Cond.code yX4_buy cX4_buy 4 (some .int) :: W0) rm_X4_buy (va_Pc [.ref o, .int x, .int y] (moM D cI o a μ hh)) (moQ D cI o a hh (m_X4_buy μ x y)) 0 0 (moA o a) := by
  refine st_gen (cc := cX4_buy) (maxL := 4) (ret := some .int) (own := RX4) (by decide) rfl (Nat.le_of_ble_eq_true rfl) ?_
  intro p e s m below meth c ls C hPre hl
  obtain ⟨hx, hb, hr, hml, hown, hts, hlk⟩ := C
  obtain ⟨⟨hP, hK⟩, hD⟩ := hPre
  have hS : va_S (moA o a) s.heap s.heap [] := va_S.rf
  have hl : lv_has ls 4 [(0, .ref (o)), (1, .int (x)), (2, .int (y))] := hl
  obtain ⟨hT6, hC6, hN6, hS5⟩ := okM_b hok
  refine lv_aload_n hx hb dX4_buy_0 rfl (lv_at hl 0 rfl) ?_
  refine lv_iload_n hx hb dX4_buy_1 rfl (lv_at hl 1 rfl) ?_
  refine lv_iload_n hx hb dX4_buy_2 rfl (lv_at hl 2 rfl) ?_
  refine mo_call (rest := []) hx hb hml hown hts hK hP (c_X4_cannotBuy l D cI o a μ hh x y (by with_reducible assumption)) (kV_X4_cannotBuy hts ml_X4_122 ⟨(Nat.le_of_ble_eq_true rfl), (Nat.le_of_ble_eq_true rfl)⟩) rfl hl.1 rfl (Nat.le_of_ble_eq_true rfl) dX4_buy_3 (Nat.zero_le _) (Nat.zero_le _) ?_
  refine lv_istore_n (lv' := [(3, .int ((f_X4_cannotBuy μ x y))), (0, .ref (o)), (1, .int (x)), (2, .int (y))]) hx hb dX4_buy_6 rfl hl (by decide) rfl (fun ls hl => ?_)
  refine lv_iload_n hx hb dX4_buy_7 rfl (lv_at hl 0 rfl) ?_
  refine lv_if_eq (tgt := 13) hx hb dX4_buy_8 (by decide) (fun c_8 => ?_) (fun c_8 => ?_)
  · obtain ⟨v1, v2, v3⟩ := cannotBuy_ok hok c_8
    have v4 := v1.1
    have v5 := v2.1
    refine lv_aload_n hx hb dX4_buy_13 rfl (lv_at hl 1 rfl) ?_
    refine mo_callV (rest := []) hx hb hml hown hts hK hP hD hS (c_X4_saves l D cI o a μ hh (by with_reducible assumption)) (kV_X4_saves hts ml_X4_62 ⟨(Nat.le_of_ble_eq_true rfl), (Nat.le_of_ble_eq_true rfl)⟩) rfl hl.1 rfl (Nat.le_of_ble_eq_true rfl) dX4_buy_14 (Nat.zero_le _) (Nat.zero_le _) (fun H locs hP hS => ?_)
    have hok_sv := saves_ok (μ := μ) (by with_reducible assumption)
    obtain ⟨hsn, hst, hsc⟩ := saves_n (μ := μ) (by with_reducible assumption)
    refine lv_aload_n hx hb dX4_buy_17 rfl (lv_at hl 1 rfl) ?_
    refine lv_iload_n hx hb dX4_buy_18 rfl (lv_at hl 2 rfl) ?_
    refine lv_iload_n hx hb dX4_buy_19 rfl (lv_at hl 3 rfl) ?_
    refine mo_callM (rest := []) hx hb hml hown hts hK hP hD hS (c_X4_buys l D cI o a (s_X4_saves μ) hh x (tn x) v1.2 y (tn y) v2.2 (by with_reducible assumption) (by first | with_reducible assumption | omega) (by first | with_reducible assumption | omega)) (kV_X4_buys hts ml_X4_125 ⟨(Nat.le_of_ble_eq_true rfl), (Nat.le_of_ble_eq_true rfl)⟩) rfl hl.1 rfl (Nat.le_of_ble_eq_true rfl) dX4_buy_20 (Nat.zero_le _) (Nat.zero_le _) (fun H locs hP hS => ?_)
    exact mo_finM hx hb hr hlk hK hP hS (br_p c_8 rfl) dX4_buy_23
  refine lv_iload_n hx hb dX4_buy_11 rfl (lv_at hl 0 rfl) ?_
  exact mo_finM hx hb hr hlk hK hP hS (br_n c_8 rfl) dX4_buy_12
theorem kV_X4_buy {R : Room} {s : State} {args : Array Value} {own : String} {idx : Nat} {c0 : Cond} (hts : ∀ w ∈ c0 :: W0, w.before args s = true) (hl : Cond.methodLink own idx yX4_buy ∈ W0) (hR : rm_X4_buy.frames + 1 ≤ R.frames ∧ 8 + (4 + 11) + rm_X4_buy.locals ≤ R.locals) : CallW R s args own RX4 idx yX4_buy cX4_buy 4 (some .int) (Cond.code yX4_buy cX4_buy 4 (some .int) :: W0) rm_X4_buy 0 0 2 := cwV 2 hts (gdV hl mi_yX4_buy ms_yX4_buy mini_X4 mc_yX4_buy) rfl rfl rfl (by decide +kernel) hR

/-! X4.buyBack -/
def m_X4_buyBack (μ : Nat → Nat → Int32) (x : Int32) (y : Int32) (z : Int32) : Int32 × (Nat → Nat → Int32) := (if (f_X4_cannotOffer μ x y z) = 0 then (if (f_X4_offered μ (tn x) y z) = 0 then ((-4), μ) else (if (μ 0 1) = 60 then ((-5), μ) else (((s_X4_comes (s_X4_saves μ) x y z) 0 1) - 1, (shU (s_X4_comes (s_X4_saves μ) x y z) 0 14 (((s_X4_comes (s_X4_saves μ) x y z) 0 14) + (f_X4_offered μ (tn x) y z)))))) else ((f_X4_cannotOffer μ x y z), μ))
abbrev rm_X4_buyBack : Room := { frames := 4, cells := 0, slots := 0, locals := 93 }
set_option maxRecDepth 100000 in
theorem c_X4_buyBack (l : Launch) (D : va_G) (cI : ClassId) (o : Nat) (a : Nat → Nat) (μ : Nat → Nat → Int32) (hh : Int64) (x : Int32) (y : Int32) (z : Int32) (hok : okM μ) :
    Met l yX4_buyBack (Cond.code yX4_buyBack cX4_buyBack 6 (some .int) :: W0) rm_X4_buyBack (va_Pc [.ref o, .int x, .int y, .int z] (moM D cI o a μ hh)) (moQ D cI o a hh (m_X4_buyBack μ x y z)) 0 0 (moA o a) := by
  refine st_gen (cc := cX4_buyBack) (maxL := 6) (ret := some .int) (own := RX4) (by decide) rfl (Nat.le_of_ble_eq_true rfl) ?_
  intro p e s m below meth c ls C hPre hl
  obtain ⟨hx, hb, hr, hml, hown, hts, hlk⟩ := C
  obtain ⟨⟨hP, hK⟩, hD⟩ := hPre
  have hS : va_S (moA o a) s.heap s.heap [] := va_S.rf
  have hl : lv_has ls 6 [(0, .ref (o)), (1, .int (x)), (2, .int (y)), (3, .int (z))] := hl
  obtain ⟨hT6, hC6, hN6, hS5⟩ := okM_b hok
  refine lv_aload_n hx hb dX4_buyBack_0 rfl (lv_at hl 0 rfl) ?_
  refine lv_iload_n hx hb dX4_buyBack_1 rfl (lv_at hl 1 rfl) ?_
  refine lv_iload_n hx hb dX4_buyBack_2 rfl (lv_at hl 2 rfl) ?_
  refine lv_iload_n hx hb dX4_buyBack_3 rfl (lv_at hl 3 rfl) ?_
  refine mo_call (rest := []) hx hb hml hown hts hK hP (c_X4_cannotOffer l D cI o a μ hh x y z (by with_reducible assumption)) (kV_X4_cannotOffer hts ml_X4_128 ⟨(Nat.le_of_ble_eq_true rfl), (Nat.le_of_ble_eq_true rfl)⟩) rfl hl.1 rfl (Nat.le_of_ble_eq_true rfl) dX4_buyBack_4 (Nat.zero_le _) (Nat.zero_le _) ?_
  refine lv_istore (lv' := [(4, .int ((f_X4_cannotOffer μ x y z))), (0, .ref (o)), (1, .int (x)), (2, .int (y)), (3, .int (z))]) hx hb dX4_buyBack_7 hl (by decide) rfl (fun ls hl => ?_)
  refine lv_iload hx hb dX4_buyBack_9 (lv_at hl 0 rfl) ?_
  refine lv_if_eq (tgt := 17) hx hb dX4_buyBack_11 (by decide) (fun c_11 => ?_) (fun c_11 => ?_)
  · have v := cannotOffer_ok hok c_11
    have vb := v.1
    refine lv_aload_n hx hb dX4_buyBack_17 rfl (lv_at hl 1 rfl) ?_
    refine lv_iload_n hx hb dX4_buyBack_18 rfl (lv_at hl 2 rfl) ?_
    refine lv_iload_n hx hb dX4_buyBack_19 rfl (lv_at hl 3 rfl) ?_
    refine lv_iload_n hx hb dX4_buyBack_20 rfl (lv_at hl 4 rfl) ?_
    refine mo_call (rest := []) hx hb hml hown hts hK hP (c_X4_offered l D cI o a μ hh x (tn x) v.2 y z (by with_reducible assumption) (by first | with_reducible assumption | omega)) (kV_X4_offered hts ml_X4_131 ⟨(Nat.le_of_ble_eq_true rfl), (Nat.le_of_ble_eq_true rfl)⟩) rfl hl.1 rfl (Nat.le_of_ble_eq_true rfl) dX4_buyBack_21 (Nat.zero_le _) (Nat.zero_le _) ?_
    refine lv_istore (lv' := [(5, .int ((f_X4_offered μ (tn x) y z))), (4, .int ((f_X4_cannotOffer μ x y z))), (0, .ref (o)), (1, .int (x)), (2, .int (y)), (3, .int (z))]) hx hb dX4_buyBack_24 hl (by decide) rfl (fun ls hl => ?_)
    refine lv_iload hx hb dX4_buyBack_26 (lv_at hl 0 rfl) ?_
    refine lv_if_ne (tgt := 34) hx hb dX4_buyBack_28 (by decide) (fun c_28 => ?_) (fun c_28 => ?_)
    · refine lv_aload_n hx hb dX4_buyBack_34 rfl (lv_at hl 2 rfl) ?_
      refine mo_g0 hx hb hts hown hK hP dX4_buyBack_35 ?_
      refine lv_iconst (v := 1) hx hb dX4_buyBack_38 (by decide) ?_
      refine mo_r0 hx hb hK hP (1) rfl (by omega) (v := μ 0 1) rfl dX4_buyBack_39 ?_
      refine lv_bipush (v := 60) hx hb dX4_buyBack_40 (by decide) ?_
      refine lv_icmp_ne (tgt := 48) hx hb dX4_buyBack_42 (by decide) (fun c_42 => ?_) (fun c_42 => ?_)
      · have hlt : mN μ < 60 := by have h0 := (okM_1 hok).1; have : ¬ mN μ = 60 := fun q => c_42 (by rw [h0, q]; rfl); omega
        refine lv_aload_n hx hb dX4_buyBack_48 rfl (lv_at hl 2 rfl) ?_
        refine mo_callV (rest := []) hx hb hml hown hts hK hP hD hS (c_X4_saves l D cI o a μ hh (by with_reducible assumption)) (kV_X4_saves hts ml_X4_62 ⟨(Nat.le_of_ble_eq_true rfl), (Nat.le_of_ble_eq_true rfl)⟩) rfl hl.1 rfl (Nat.le_of_ble_eq_true rfl) dX4_buyBack_49 (Nat.zero_le _) (Nat.zero_le _) (fun H locs hP hS => ?_)
        have hok_sv := saves_ok (μ := μ) (by with_reducible assumption)
        obtain ⟨hsn, hst, hsc⟩ := saves_n (μ := μ) (by with_reducible assumption)
        refine lv_aload_n hx hb dX4_buyBack_52 rfl (lv_at hl 2 rfl) ?_
        refine lv_iload_n hx hb dX4_buyBack_53 rfl (lv_at hl 3 rfl) ?_
        refine lv_iload_n hx hb dX4_buyBack_54 rfl (lv_at hl 4 rfl) ?_
        refine lv_iload_n hx hb dX4_buyBack_55 rfl (lv_at hl 5 rfl) ?_
        refine mo_callV (rest := []) hx hb hml hown hts hK hP hD hS (c_X4_comes l D cI o a (s_X4_saves μ) hh x y z (by first | exact (okM_1 (by with_reducible assumption)).1 | (rw [hc, tn_nI (by omega)])) (by first | (show mN _ < 60; omega) | (rw [hc, tn_nI (by omega)]; omega))) (kV_X4_comes hts ml_X4_119 ⟨(Nat.le_of_ble_eq_true rfl), (Nat.le_of_ble_eq_true rfl)⟩) rfl hl.1 rfl (Nat.le_of_ble_eq_true rfl) dX4_buyBack_56 (Nat.zero_le _) (Nat.zero_le _) (fun H locs hP hS => ?_)
        refine lv_aload_n hx hb dX4_buyBack_59 rfl (lv_at hl 2 rfl) ?_
        refine mo_g0 hx hb hts hown hK hP dX4_buyBack_60 ?_
        refine lv_bipush (v := 14) hx hb dX4_buyBack_63 (by decide) ?_
        refine lv_dup2_11 hx hb dX4_buyBack_65 rfl rfl ?_
        refine mo_r0 hx hb hK hP (14) rfl (by omega) (v := (s_X4_comes (s_X4_saves μ) x y z) 0 14) rfl dX4_buyBack_66 ?_
        refine lv_iload hx hb dX4_buyBack_67 (lv_at hl 0 rfl) ?_
        refine lv_iadd hx hb dX4_buyBack_69 ?_
        refine mo_w0 hx hb hK hP hD hS (14) rfl (by omega) dX4_buyBack_70 (fun H locs hP hS => ?_)
        refine lv_aload_n hx hb dX4_buyBack_71 rfl (lv_at hl 2 rfl) ?_
        refine mo_g0 hx hb hts hown hK hP dX4_buyBack_72 ?_
        refine lv_iconst (v := 1) hx hb dX4_buyBack_75 (by decide) ?_
        refine mo_r0 hx hb hK hP (1) rfl (by omega) (v := (s_X4_comes (s_X4_saves μ) x y z) 0 1) (shU_ne (σ := (s_X4_comes (s_X4_saves μ) x y z)) (by decide)) dX4_buyBack_76 ?_
        refine lv_iconst (v := 1) hx hb dX4_buyBack_77 (by decide) ?_
        refine lv_isub hx hb dX4_buyBack_78 ?_
        exact mo_finM hx hb hr hlk hK hP hS (br_p c_11 (br_n c_28 (br_n c_42 rfl))) dX4_buyBack_79
      refine lv_bipush (v := (-5)) hx hb dX4_buyBack_45 (by decide) ?_
      exact mo_finM hx hb hr hlk hK hP hS (br_p c_11 (br_n c_28 (br_p c_42 rfl))) dX4_buyBack_47
    refine lv_bipush (v := (-4)) hx hb dX4_buyBack_31 (by decide) ?_
    exact mo_finM hx hb hr hlk hK hP hS (br_p c_11 (br_p c_28 rfl)) dX4_buyBack_33
  refine lv_iload hx hb dX4_buyBack_14 (lv_at hl 0 rfl) ?_
  exact mo_finM hx hb hr hlk hK hP hS (br_n c_11 rfl) dX4_buyBack_16
theorem kV_X4_buyBack {R : Room} {s : State} {args : Array Value} {own : String} {idx : Nat} {c0 : Cond} (hts : ∀ w ∈ c0 :: W0, w.before args s = true) (hl : Cond.methodLink own idx yX4_buyBack ∈ W0) (hR : rm_X4_buyBack.frames + 1 ≤ R.frames ∧ 8 + (6 + 11) + rm_X4_buyBack.locals ≤ R.locals) : CallW R s args own RX4 idx yX4_buyBack cX4_buyBack 6 (some .int) (Cond.code yX4_buyBack cX4_buyBack 6 (some .int) :: W0) rm_X4_buyBack 0 0 3 := cwV 3 hts (gdV hl mi_yX4_buyBack ms_yX4_buyBack mini_X4 mc_yX4_buyBack) rfl rfl rfl (by decide +kernel) hR

/-! X4.sell -/
def m_X4_sell (μ : Nat → Nat → Int32) (x : Int32) : Int32 × (Nat → Nat → Int32) := (if (f_X4_cannotSell μ x) = 0 then ((m_X4_sells (s_X4_saves μ) (tn x)).1, (m_X4_sells (s_X4_saves μ) (tn x)).2) else ((f_X4_cannotSell μ x), μ))
abbrev rm_X4_sell : Room := { frames := 5, cells := 0, slots := 0, locals := 111 }
set_option maxRecDepth 100000 in
theorem c_X4_sell (l : Launch) (D : va_G) (cI : ClassId) (o : Nat) (a : Nat → Nat) (μ : Nat → Nat → Int32) (hh : Int64) (x : Int32) (hok : okM μ) :
    Met l yX4_sell (Cond.code yX4_sell cX4_sell 3 (some .int) :: W0) rm_X4_sell (va_Pc [.ref o, .int x] (moM D cI o a μ hh)) (moQ D cI o a hh (m_X4_sell μ x)) 0 0 (moA o a) := by
  refine st_gen (cc := cX4_sell) (maxL := 3) (ret := some .int) (own := RX4) (by decide) rfl (Nat.le_of_ble_eq_true rfl) ?_
  intro p e s m below meth c ls C hPre hl
  obtain ⟨hx, hb, hr, hml, hown, hts, hlk⟩ := C
  obtain ⟨⟨hP, hK⟩, hD⟩ := hPre
  have hS : va_S (moA o a) s.heap s.heap [] := va_S.rf
  have hl : lv_has ls 3 [(0, .ref (o)), (1, .int (x))] := hl
  obtain ⟨hT6, hC6, hN6, hS5⟩ := okM_b hok
  refine lv_aload_n hx hb dX4_sell_0 rfl (lv_at hl 0 rfl) ?_
  refine lv_iload_n hx hb dX4_sell_1 rfl (lv_at hl 1 rfl) ?_
  refine mo_call (rest := []) hx hb hml hown hts hK hP (c_X4_cannotSell l D cI o a μ hh x (by with_reducible assumption)) (kV_X4_cannotSell hts ml_X4_137 ⟨(Nat.le_of_ble_eq_true rfl), (Nat.le_of_ble_eq_true rfl)⟩) rfl hl.1 rfl (Nat.le_of_ble_eq_true rfl) dX4_sell_2 (Nat.zero_le _) (Nat.zero_le _) ?_
  refine lv_istore_n (lv' := [(2, .int ((f_X4_cannotSell μ x))), (0, .ref (o)), (1, .int (x))]) hx hb dX4_sell_5 rfl hl (by decide) rfl (fun ls hl => ?_)
  refine lv_iload_n hx hb dX4_sell_6 rfl (lv_at hl 0 rfl) ?_
  refine lv_if_eq (tgt := 12) hx hb dX4_sell_7 (by decide) (fun c_7 => ?_) (fun c_7 => ?_)
  · have v := cannotSell_ok hok c_7
    have vb := v.1
    refine lv_aload_n hx hb dX4_sell_12 rfl (lv_at hl 1 rfl) ?_
    refine mo_callV (rest := []) hx hb hml hown hts hK hP hD hS (c_X4_saves l D cI o a μ hh (by with_reducible assumption)) (kV_X4_saves hts ml_X4_62 ⟨(Nat.le_of_ble_eq_true rfl), (Nat.le_of_ble_eq_true rfl)⟩) rfl hl.1 rfl (Nat.le_of_ble_eq_true rfl) dX4_sell_13 (Nat.zero_le _) (Nat.zero_le _) (fun H locs hP hS => ?_)
    have hok_sv := saves_ok (μ := μ) (by with_reducible assumption)
    obtain ⟨hsn, hst, hsc⟩ := saves_n (μ := μ) (by with_reducible assumption)
    refine lv_aload_n hx hb dX4_sell_16 rfl (lv_at hl 1 rfl) ?_
    refine lv_iload_n hx hb dX4_sell_17 rfl (lv_at hl 2 rfl) ?_
    refine mo_callM (rest := []) hx hb hml hown hts hK hP hD hS (c_X4_sells l D cI o a (s_X4_saves μ) hh x (tn x) v.2 (by with_reducible assumption) (by first | with_reducible assumption | omega)) (kV_X4_sells hts ml_X4_140 ⟨(Nat.le_of_ble_eq_true rfl), (Nat.le_of_ble_eq_true rfl)⟩) rfl hl.1 rfl (Nat.le_of_ble_eq_true rfl) dX4_sell_18 (Nat.zero_le _) (Nat.zero_le _) (fun H locs hP hS => ?_)
    exact mo_finM hx hb hr hlk hK hP hS (br_p c_7 rfl) dX4_sell_21
  refine lv_iload_n hx hb dX4_sell_10 rfl (lv_at hl 0 rfl) ?_
  exact mo_finM hx hb hr hlk hK hP hS (br_n c_7 rfl) dX4_sell_11
theorem kV_X4_sell {R : Room} {s : State} {args : Array Value} {own : String} {idx : Nat} {c0 : Cond} (hts : ∀ w ∈ c0 :: W0, w.before args s = true) (hl : Cond.methodLink own idx yX4_sell ∈ W0) (hR : rm_X4_sell.frames + 1 ≤ R.frames ∧ 8 + (3 + 11) + rm_X4_sell.locals ≤ R.locals) : CallW R s args own RX4 idx yX4_sell cX4_sell 3 (some .int) (Cond.code yX4_sell cX4_sell 3 (some .int) :: W0) rm_X4_sell 0 0 1 := cwV 1 hts (gdV hl mi_yX4_sell ms_yX4_sell mini_X4 mc_yX4_sell) rfl rfl rfl (by decide +kernel) hR

/-! X4.rent -/
def m_X4_rent (μ : Nat → Nat → Int32) (x : Int32) (y : Int32) : Int32 × (Nat → Nat → Int32) := (if (f_X4_cannotRent μ x y) = 0 then ((m_X4_rents (s_X4_saves μ) (tn x) (tn y)).1, (m_X4_rents (s_X4_saves μ) (tn x) (tn y)).2) else ((f_X4_cannotRent μ x y), μ))
abbrev rm_X4_rent : Room := { frames := 5, cells := 0, slots := 0, locals := 113 }
set_option maxRecDepth 100000 in
theorem c_X4_rent (l : Launch) (D : va_G) (cI : ClassId) (o : Nat) (a : Nat → Nat) (μ : Nat → Nat → Int32) (hh : Int64) (x : Int32) (y : Int32) (hok : okM μ) :
    Met l yX4_rent (Cond.code yX4_rent cX4_rent 4 (some .int) :: W0) rm_X4_rent (va_Pc [.ref o, .int x, .int y] (moM D cI o a μ hh)) (moQ D cI o a hh (m_X4_rent μ x y)) 0 0 (moA o a) := by
  refine st_gen (cc := cX4_rent) (maxL := 4) (ret := some .int) (own := RX4) (by decide) rfl (Nat.le_of_ble_eq_true rfl) ?_
  intro p e s m below meth c ls C hPre hl
  obtain ⟨hx, hb, hr, hml, hown, hts, hlk⟩ := C
  obtain ⟨⟨hP, hK⟩, hD⟩ := hPre
  have hS : va_S (moA o a) s.heap s.heap [] := va_S.rf
  have hl : lv_has ls 4 [(0, .ref (o)), (1, .int (x)), (2, .int (y))] := hl
  obtain ⟨hT6, hC6, hN6, hS5⟩ := okM_b hok
  refine lv_aload_n hx hb dX4_rent_0 rfl (lv_at hl 0 rfl) ?_
  refine lv_iload_n hx hb dX4_rent_1 rfl (lv_at hl 1 rfl) ?_
  refine lv_iload_n hx hb dX4_rent_2 rfl (lv_at hl 2 rfl) ?_
  refine mo_call (rest := []) hx hb hml hown hts hK hP (c_X4_cannotRent l D cI o a μ hh x y (by with_reducible assumption)) (kV_X4_cannotRent hts ml_X4_155 ⟨(Nat.le_of_ble_eq_true rfl), (Nat.le_of_ble_eq_true rfl)⟩) rfl hl.1 rfl (Nat.le_of_ble_eq_true rfl) dX4_rent_3 (Nat.zero_le _) (Nat.zero_le _) ?_
  refine lv_istore_n (lv' := [(3, .int ((f_X4_cannotRent μ x y))), (0, .ref (o)), (1, .int (x)), (2, .int (y))]) hx hb dX4_rent_6 rfl hl (by decide) rfl (fun ls hl => ?_)
  refine lv_iload_n hx hb dX4_rent_7 rfl (lv_at hl 0 rfl) ?_
  refine lv_if_eq (tgt := 13) hx hb dX4_rent_8 (by decide) (fun c_8 => ?_) (fun c_8 => ?_)
  · obtain ⟨v1, v2, v3⟩ := cannotRent_ok hok c_8
    have v4 := v1.1
    have v5 := v2.1
    refine lv_aload_n hx hb dX4_rent_13 rfl (lv_at hl 1 rfl) ?_
    refine mo_callV (rest := []) hx hb hml hown hts hK hP hD hS (c_X4_saves l D cI o a μ hh (by with_reducible assumption)) (kV_X4_saves hts ml_X4_62 ⟨(Nat.le_of_ble_eq_true rfl), (Nat.le_of_ble_eq_true rfl)⟩) rfl hl.1 rfl (Nat.le_of_ble_eq_true rfl) dX4_rent_14 (Nat.zero_le _) (Nat.zero_le _) (fun H locs hP hS => ?_)
    have hok_sv := saves_ok (μ := μ) (by with_reducible assumption)
    obtain ⟨hsn, hst, hsc⟩ := saves_n (μ := μ) (by with_reducible assumption)
    have v6 := saves_next hok (tn y) v5 v3
    refine lv_aload_n hx hb dX4_rent_17 rfl (lv_at hl 1 rfl) ?_
    refine lv_iload_n hx hb dX4_rent_18 rfl (lv_at hl 2 rfl) ?_
    refine lv_iload_n hx hb dX4_rent_19 rfl (lv_at hl 3 rfl) ?_
    refine mo_callM (rest := []) hx hb hml hown hts hK hP hD hS (c_X4_rents l D cI o a (s_X4_saves μ) hh x (tn x) v1.2 y (tn y) v2.2 (by with_reducible assumption) (by first | with_reducible assumption | omega) (by first | with_reducible assumption | omega) (by first | with_reducible assumption | omega)) (kV_X4_rents hts ml_X4_158 ⟨(Nat.le_of_ble_eq_true rfl), (Nat.le_of_ble_eq_true rfl)⟩) rfl hl.1 rfl (Nat.le_of_ble_eq_true rfl) dX4_rent_20 (Nat.zero_le _) (Nat.zero_le _) (fun H locs hP hS => ?_)
    exact mo_finM hx hb hr hlk hK hP hS (br_p c_8 rfl) dX4_rent_23
  refine lv_iload_n hx hb dX4_rent_11 rfl (lv_at hl 0 rfl) ?_
  exact mo_finM hx hb hr hlk hK hP hS (br_n c_8 rfl) dX4_rent_12
theorem kV_X4_rent {R : Room} {s : State} {args : Array Value} {own : String} {idx : Nat} {c0 : Cond} (hts : ∀ w ∈ c0 :: W0, w.before args s = true) (hl : Cond.methodLink own idx yX4_rent ∈ W0) (hR : rm_X4_rent.frames + 1 ≤ R.frames ∧ 8 + (4 + 11) + rm_X4_rent.locals ≤ R.locals) : CallW R s args own RX4 idx yX4_rent cX4_rent 4 (some .int) (Cond.code yX4_rent cX4_rent 4 (some .int) :: W0) rm_X4_rent 0 0 2 := cwV 2 hts (gdV hl mi_yX4_rent ms_yX4_rent mini_X4 mc_yX4_rent) rfl rfl rfl (by decide +kernel) hR

/-! X4.next -/
def f_X4_next (μ : Nat → Nat → Int32) (x : Int32) : Int32 := (if (f_X4_isCourse μ x) = 0 then (-2) else (f_X4_nextOf μ (tn x)))
abbrev rm_X4_next : Room := { frames := 4, cells := 0, slots := 0, locals := 90 }
set_option maxRecDepth 100000 in
theorem c_X4_next (l : Launch) (D : va_G) (cI : ClassId) (o : Nat) (a : Nat → Nat) (μ : Nat → Nat → Int32) (hh : Int64) (x : Int32) (hok : okM μ) :
    Met l yX4_next (Cond.code yX4_next cX4_next 2 (some .int) :: W0) rm_X4_next (va_Pc [.ref o, .int x] (moP D cI o a μ hh)) (vp_Si (fun r => r = f_X4_next μ x)) 0 0 (fun _ => False) := by
  refine st_gen (cc := cX4_next) (maxL := 2) (ret := some .int) (own := RX4) (by decide) rfl (Nat.le_of_ble_eq_true rfl) ?_
  intro p e s m below meth c ls C hPre hl
  obtain ⟨hx, hb, hr, hml, hown, hts, hlk⟩ := C
  obtain ⟨hP, hK⟩ := hPre
  have hl : lv_has ls 2 [(0, .ref (o)), (1, .int (x))] := hl
  obtain ⟨hT6, hC6, hN6, hS5⟩ := okM_b hok
  refine lv_aload_n hx hb dX4_next_0 rfl (lv_at hl 0 rfl) ?_
  refine lv_iload_n hx hb dX4_next_1 rfl (lv_at hl 1 rfl) ?_
  refine mo_call (rest := []) hx hb hml hown hts hK hP (c_X4_isCourse l D cI o a μ hh x) (kV_X4_isCourse hts ml_X4_72 ⟨(Nat.le_of_ble_eq_true rfl), (Nat.le_of_ble_eq_true rfl)⟩) rfl hl.1 rfl (Nat.le_of_ble_eq_true rfl) dX4_next_2 (Nat.zero_le _) (Nat.zero_le _) ?_
  refine lv_if_eq (tgt := 16) hx hb dX4_next_5 (by decide) (fun c_5 => ?_) (fun c_5 => ?_)
  · refine lv_bipush (v := (-2)) hx hb dX4_next_16 (by decide) ?_
    exact fin_i hx hb hr hlk (br_p c_5 rfl) dX4_next_18
  have v_5 := isCourse_okm (μ := μ) (by with_reducible assumption) c_5
  have vb_5 := v_5.1
  refine lv_aload_n hx hb dX4_next_8 rfl (lv_at hl 0 rfl) ?_
  refine lv_iload_n hx hb dX4_next_9 rfl (lv_at hl 1 rfl) ?_
  refine mo_call (rest := []) hx hb hml hown hts hK hP (c_X4_nextOf l D cI o a μ hh x (tn x) v_5.2 (by with_reducible assumption) (by first | with_reducible assumption | omega)) (kV_X4_nextOf hts ml_X4_149 ⟨(Nat.le_of_ble_eq_true rfl), (Nat.le_of_ble_eq_true rfl)⟩) rfl hl.1 rfl (Nat.le_of_ble_eq_true rfl) dX4_next_10 (Nat.zero_le _) (Nat.zero_le _) ?_
  refine lv_goto (tgt := 18) hx hb dX4_next_13 (by decide) ?_
  exact fin_i hx hb hr hlk (br_n c_5 rfl) dX4_next_18
theorem kV_X4_next {R : Room} {s : State} {args : Array Value} {own : String} {idx : Nat} {c0 : Cond} (hts : ∀ w ∈ c0 :: W0, w.before args s = true) (hl : Cond.methodLink own idx yX4_next ∈ W0) (hR : rm_X4_next.frames + 1 ≤ R.frames ∧ 8 + (2 + 11) + rm_X4_next.locals ≤ R.locals) : CallW R s args own RX4 idx yX4_next cX4_next 2 (some .int) (Cond.code yX4_next cX4_next 2 (some .int) :: W0) rm_X4_next 0 0 1 := cwV 1 hts (gdV hl mi_yX4_next ms_yX4_next mini_X4 mc_yX4_next) rfl rfl rfl (by decide +kernel) hR

/-! X4.giveBack -/
def m_X4_giveBack (μ : Nat → Nat → Int32) (x : Int32) (y : Int32) : Int32 × (Nat → Nat → Int32) := (if (f_X4_cannotGive μ x y) = 0 then ((m_X4_gives (s_X4_saves μ) (tn x) y).1, (m_X4_gives (s_X4_saves μ) (tn x) y).2) else ((f_X4_cannotGive μ x y), μ))
abbrev rm_X4_giveBack : Room := { frames := 5, cells := 0, slots := 0, locals := 115 }
set_option maxRecDepth 100000 in
theorem c_X4_giveBack (l : Launch) (D : va_G) (cI : ClassId) (o : Nat) (a : Nat → Nat) (μ : Nat → Nat → Int32) (hh : Int64) (x : Int32) (y : Int32) (hok : okM μ) :
    Met l yX4_giveBack (Cond.code yX4_giveBack cX4_giveBack 4 (some .int) :: W0) rm_X4_giveBack (va_Pc [.ref o, .int x, .int y] (moM D cI o a μ hh)) (moQ D cI o a hh (m_X4_giveBack μ x y)) 0 0 (moA o a) := by
  refine st_gen (cc := cX4_giveBack) (maxL := 4) (ret := some .int) (own := RX4) (by decide) rfl (Nat.le_of_ble_eq_true rfl) ?_
  intro p e s m below meth c ls C hPre hl
  obtain ⟨hx, hb, hr, hml, hown, hts, hlk⟩ := C
  obtain ⟨⟨hP, hK⟩, hD⟩ := hPre
  have hS : va_S (moA o a) s.heap s.heap [] := va_S.rf
  have hl : lv_has ls 4 [(0, .ref (o)), (1, .int (x)), (2, .int (y))] := hl
  obtain ⟨hT6, hC6, hN6, hS5⟩ := okM_b hok
  refine lv_aload_n hx hb dX4_giveBack_0 rfl (lv_at hl 0 rfl) ?_
  refine lv_iload_n hx hb dX4_giveBack_1 rfl (lv_at hl 1 rfl) ?_
  refine lv_iload_n hx hb dX4_giveBack_2 rfl (lv_at hl 2 rfl) ?_
  refine mo_call (rest := []) hx hb hml hown hts hK hP (c_X4_cannotGive l D cI o a μ hh x y (by with_reducible assumption)) (kV_X4_cannotGive hts ml_X4_167 ⟨(Nat.le_of_ble_eq_true rfl), (Nat.le_of_ble_eq_true rfl)⟩) rfl hl.1 rfl (Nat.le_of_ble_eq_true rfl) dX4_giveBack_3 (Nat.zero_le _) (Nat.zero_le _) ?_
  refine lv_istore_n (lv' := [(3, .int ((f_X4_cannotGive μ x y))), (0, .ref (o)), (1, .int (x)), (2, .int (y))]) hx hb dX4_giveBack_6 rfl hl (by decide) rfl (fun ls hl => ?_)
  refine lv_iload_n hx hb dX4_giveBack_7 rfl (lv_at hl 0 rfl) ?_
  refine lv_if_eq (tgt := 13) hx hb dX4_giveBack_8 (by decide) (fun c_8 => ?_) (fun c_8 => ?_)
  · obtain ⟨v1, v2⟩ := cannotGive_ok hok c_8
    have v4 := v1.1
    refine lv_aload_n hx hb dX4_giveBack_13 rfl (lv_at hl 1 rfl) ?_
    refine mo_callV (rest := []) hx hb hml hown hts hK hP hD hS (c_X4_saves l D cI o a μ hh (by with_reducible assumption)) (kV_X4_saves hts ml_X4_62 ⟨(Nat.le_of_ble_eq_true rfl), (Nat.le_of_ble_eq_true rfl)⟩) rfl hl.1 rfl (Nat.le_of_ble_eq_true rfl) dX4_giveBack_14 (Nat.zero_le _) (Nat.zero_le _) (fun H locs hP hS => ?_)
    have hok_sv := saves_ok (μ := μ) (by with_reducible assumption)
    obtain ⟨hsn, hst, hsc⟩ := saves_n (μ := μ) (by with_reducible assumption)
    have v6 : s_X4_saves μ 0 (53 + 6 * tn x + 3) = 1 := (saves_lo hok (by omega)).trans v2
    refine lv_aload_n hx hb dX4_giveBack_17 rfl (lv_at hl 1 rfl) ?_
    refine lv_iload_n hx hb dX4_giveBack_18 rfl (lv_at hl 2 rfl) ?_
    refine lv_iload_n hx hb dX4_giveBack_19 rfl (lv_at hl 3 rfl) ?_
    refine mo_callM (rest := []) hx hb hml hown hts hK hP hD hS (c_X4_gives l D cI o a (s_X4_saves μ) hh x (tn x) v1.2 y (by with_reducible assumption) (by first | with_reducible assumption | omega) (by first | with_reducible assumption | omega)) (kV_X4_gives hts ml_X4_170 ⟨(Nat.le_of_ble_eq_true rfl), (Nat.le_of_ble_eq_true rfl)⟩) rfl hl.1 rfl (Nat.le_of_ble_eq_true rfl) dX4_giveBack_20 (Nat.zero_le _) (Nat.zero_le _) (fun H locs hP hS => ?_)
    exact mo_finM hx hb hr hlk hK hP hS (br_p c_8 rfl) dX4_giveBack_23
  refine lv_iload_n hx hb dX4_giveBack_11 rfl (lv_at hl 0 rfl) ?_
  exact mo_finM hx hb hr hlk hK hP hS (br_n c_8 rfl) dX4_giveBack_12
theorem kV_X4_giveBack {R : Room} {s : State} {args : Array Value} {own : String} {idx : Nat} {c0 : Cond} (hts : ∀ w ∈ c0 :: W0, w.before args s = true) (hl : Cond.methodLink own idx yX4_giveBack ∈ W0) (hR : rm_X4_giveBack.frames + 1 ≤ R.frames ∧ 8 + (4 + 11) + rm_X4_giveBack.locals ≤ R.locals) : CallW R s args own RX4 idx yX4_giveBack cX4_giveBack 4 (some .int) (Cond.code yX4_giveBack cX4_giveBack 4 (some .int) :: W0) rm_X4_giveBack 0 0 2 := cwV 2 hts (gdV hl mi_yX4_giveBack ms_yX4_giveBack mini_X4 mc_yX4_giveBack) rfl rfl rfl (by decide +kernel) hR

/-! X4.pass -/
def m_X4_pass (μ : Nat → Nat → Int32) (x : Int32) : Int32 × (Nat → Nat → Int32) := (if (f_X4_cannotPass μ x) = 0 then ((m_X4_passes (s_X4_saves μ) x).1, (m_X4_passes (s_X4_saves μ) x).2) else ((f_X4_cannotPass μ x), μ))
abbrev rm_X4_pass : Room := { frames := 4, cells := 0, slots := 0, locals := 90 }
set_option maxRecDepth 100000 in
theorem c_X4_pass (l : Launch) (D : va_G) (cI : ClassId) (o : Nat) (a : Nat → Nat) (μ : Nat → Nat → Int32) (hh : Int64) (x : Int32) (hok : okM μ) :
    Met l yX4_pass (Cond.code yX4_pass cX4_pass 3 (some .int) :: W0) rm_X4_pass (va_Pc [.ref o, .int x] (moM D cI o a μ hh)) (moQ D cI o a hh (m_X4_pass μ x)) 0 0 (moA o a) := by
  refine st_gen (cc := cX4_pass) (maxL := 3) (ret := some .int) (own := RX4) (by decide) rfl (Nat.le_of_ble_eq_true rfl) ?_
  intro p e s m below meth c ls C hPre hl
  obtain ⟨hx, hb, hr, hml, hown, hts, hlk⟩ := C
  obtain ⟨⟨hP, hK⟩, hD⟩ := hPre
  have hS : va_S (moA o a) s.heap s.heap [] := va_S.rf
  have hl : lv_has ls 3 [(0, .ref (o)), (1, .int (x))] := hl
  obtain ⟨hT6, hC6, hN6, hS5⟩ := okM_b hok
  refine lv_aload_n hx hb dX4_pass_0 rfl (lv_at hl 0 rfl) ?_
  refine lv_iload_n hx hb dX4_pass_1 rfl (lv_at hl 1 rfl) ?_
  refine mo_call (rest := []) hx hb hml hown hts hK hP (c_X4_cannotPass l D cI o a μ hh x) (kV_X4_cannotPass hts ml_X4_174 ⟨(Nat.le_of_ble_eq_true rfl), (Nat.le_of_ble_eq_true rfl)⟩) rfl hl.1 rfl (Nat.le_of_ble_eq_true rfl) dX4_pass_2 (Nat.zero_le _) (Nat.zero_le _) ?_
  refine lv_istore_n (lv' := [(2, .int ((f_X4_cannotPass μ x))), (0, .ref (o)), (1, .int (x))]) hx hb dX4_pass_5 rfl hl (by decide) rfl (fun ls hl => ?_)
  refine lv_iload_n hx hb dX4_pass_6 rfl (lv_at hl 0 rfl) ?_
  refine lv_if_eq (tgt := 12) hx hb dX4_pass_7 (by decide) (fun c_7 => ?_) (fun c_7 => ?_)
  · refine lv_aload_n hx hb dX4_pass_12 rfl (lv_at hl 1 rfl) ?_
    refine mo_callV (rest := []) hx hb hml hown hts hK hP hD hS (c_X4_saves l D cI o a μ hh (by with_reducible assumption)) (kV_X4_saves hts ml_X4_62 ⟨(Nat.le_of_ble_eq_true rfl), (Nat.le_of_ble_eq_true rfl)⟩) rfl hl.1 rfl (Nat.le_of_ble_eq_true rfl) dX4_pass_13 (Nat.zero_le _) (Nat.zero_le _) (fun H locs hP hS => ?_)
    have hok_sv := saves_ok (μ := μ) (by with_reducible assumption)
    obtain ⟨hsn, hst, hsc⟩ := saves_n (μ := μ) (by with_reducible assumption)
    refine lv_aload_n hx hb dX4_pass_16 rfl (lv_at hl 1 rfl) ?_
    refine lv_iload_n hx hb dX4_pass_17 rfl (lv_at hl 2 rfl) ?_
    refine mo_callM (rest := []) hx hb hml hown hts hK hP hD hS (c_X4_passes l D cI o a (s_X4_saves μ) hh x (by with_reducible assumption)) (kV_X4_passes hts ml_X4_177 ⟨(Nat.le_of_ble_eq_true rfl), (Nat.le_of_ble_eq_true rfl)⟩) rfl hl.1 rfl (Nat.le_of_ble_eq_true rfl) dX4_pass_18 (Nat.zero_le _) (Nat.zero_le _) (fun H locs hP hS => ?_)
    exact mo_finM hx hb hr hlk hK hP hS (br_p c_7 rfl) dX4_pass_21
  refine lv_iload_n hx hb dX4_pass_10 rfl (lv_at hl 0 rfl) ?_
  exact mo_finM hx hb hr hlk hK hP hS (br_n c_7 rfl) dX4_pass_11
theorem kV_X4_pass {R : Room} {s : State} {args : Array Value} {own : String} {idx : Nat} {c0 : Cond} (hts : ∀ w ∈ c0 :: W0, w.before args s = true) (hl : Cond.methodLink own idx yX4_pass ∈ W0) (hR : rm_X4_pass.frames + 1 ≤ R.frames ∧ 8 + (3 + 11) + rm_X4_pass.locals ≤ R.locals) : CallW R s args own RX4 idx yX4_pass cX4_pass 3 (some .int) (Cond.code yX4_pass cX4_pass 3 (some .int) :: W0) rm_X4_pass 0 0 1 := cwV 1 hts (gdV hl mi_yX4_pass ms_yX4_pass mini_X4 mc_yX4_pass) rfl rfl rfl (by decide +kernel) hR

/-! X4.shelf -/
def g_X4_shelf_111 (μ : Nat → Nat → Int32) (x : Int32) (y : Int32) : Nat → (Nat) → (Int32) → (Nat → Nat → Int32) → (Nat → Nat → Int32)
  | 0, k, x3, ω => ω
  | fu + 1, k, x3, ω => (if mN μ ≤ k then ω else (if 0 ≤ x3 then g_X4_shelf_111 μ x y fu (k + 1) x3 ω else (if (f_X4_of ω k 0) = x then (if (f_X4_is ω k 4) = 0 then g_X4_shelf_111 μ x y fu (k + 1) x3 ω else g_X4_shelf_111 μ x y fu (k + 1) (x3 + 1) (s_X4_sets ω k 3 0)) else g_X4_shelf_111 μ x y fu (k + 1) x3 ω)))
def g_X4_shelf_61 (μ : Nat → Nat → Int32) (x : Int32) (y : Int32) : Nat → (Nat) → (Int32) → (Nat → Nat → Int32) → Int32 × (Nat → Nat → Int32)
  | 0, k, x3, ω => (x3, ω)
  | fu + 1, k, x3, ω => (if k = 0 then (x3, ω) else (if x3 ≤ 0 then g_X4_shelf_61 μ x y fu (k - 1) x3 ω else (if (f_X4_of ω (k - 1) 0) = x then (if (f_X4_is ω (k - 1) 0) = 0 then g_X4_shelf_61 μ x y fu (k - 1) x3 ω else g_X4_shelf_61 μ x y fu (k - 1) (x3 - 1) (s_X4_sets ω (k - 1) 3 4)) else g_X4_shelf_61 μ x y fu (k - 1) x3 ω)))
def m_X4_shelf (μ : Nat → Nat → Int32) (x : Int32) (y : Int32) : Int32 × (Nat → Nat → Int32) := (if (f_X4_isTitle μ x) = 0 then ((-2), μ) else (if (f_X4_in y 0 60) = 0 then ((-3), μ) else (if (-((f_X4_ofTitle μ x 0) - y)) ≤ (f_X4_ofTitle μ x 4) then ((f_X4_ofTitle (g_X4_shelf_111 μ x y (mN μ + 1) 0 ((g_X4_shelf_61 μ x y (mN μ + 1) (mN (s_X4_saves μ)) ((f_X4_ofTitle μ x 0) - y) (s_X4_saves μ)).1) ((g_X4_shelf_61 μ x y (mN μ + 1) (mN (s_X4_saves μ)) ((f_X4_ofTitle μ x 0) - y) (s_X4_saves μ)).2)) x 4), (g_X4_shelf_111 μ x y (mN μ + 1) 0 ((g_X4_shelf_61 μ x y (mN μ + 1) (mN (s_X4_saves μ)) ((f_X4_ofTitle μ x 0) - y) (s_X4_saves μ)).1) ((g_X4_shelf_61 μ x y (mN μ + 1) (mN (s_X4_saves μ)) ((f_X4_ofTitle μ x 0) - y) (s_X4_saves μ)).2))) else ((-4), μ))))
abbrev rm_X4_shelf : Room := { frames := 3, cells := 0, slots := 0, locals := 68 }
theorem shelf_g1 {μ : Nat → Nat → Int32} {x y : Int32} : ∀ (fu k : Nat) (z : Int32) (ω : Nat → Nat → Int32), (g_X4_shelf_61 μ x y fu k z ω).2 0 1 = ω 0 1 := by
  intro fu
  induction fu with
  | zero => intros; rfl
  | succ fu ih =>
    intro k z ω
    rw [g_X4_shelf_61]
    (repeat' split) <;> first | rfl | exact ih .. | (rw [ih, sets_ne (by omega)])
theorem shelf_h1 {μ : Nat → Nat → Int32} {x y : Int32} : ∀ (fu k : Nat) (z : Int32) (ω : Nat → Nat → Int32), g_X4_shelf_111 μ x y fu k z ω 0 1 = ω 0 1 := by
  intro fu
  induction fu with
  | zero => intros; rfl
  | succ fu ih =>
    intro k z ω
    rw [g_X4_shelf_111]
    (repeat' split) <;> first | rfl | exact ih .. | (rw [ih, sets_ne (by omega)])
set_option maxRecDepth 100000 in
theorem c_X4_shelf (l : Launch) (D : va_G) (cI : ClassId) (o : Nat) (a : Nat → Nat) (μ : Nat → Nat → Int32) (hh : Int64) (x : Int32) (y : Int32) (hok : okM μ) :
    Met l yX4_shelf (Cond.code yX4_shelf cX4_shelf 5 (some .int) :: W0) rm_X4_shelf (va_Pc [.ref o, .int x, .int y] (moM D cI o a μ hh)) (moQ D cI o a hh (m_X4_shelf μ x y)) 0 0 (moA o a) := by
  refine st_gen (cc := cX4_shelf) (maxL := 5) (ret := some .int) (own := RX4) (by decide) rfl (Nat.le_of_ble_eq_true rfl) ?_
  intro p e s m below meth c ls C hPre hl
  obtain ⟨hx, hb, hr, hml, hown, hts, hlk⟩ := C
  obtain ⟨⟨hP, hK⟩, hD⟩ := hPre
  have hS : va_S (moA o a) s.heap s.heap [] := va_S.rf
  have hl : lv_has ls 5 [(0, .ref (o)), (1, .int (x)), (2, .int (y))] := hl
  obtain ⟨hT6, hC6, hN6, hS5⟩ := okM_b hok
  refine lv_aload_n hx hb dX4_shelf_0 rfl (lv_at hl 0 rfl) ?_
  refine lv_iload_n hx hb dX4_shelf_1 rfl (lv_at hl 1 rfl) ?_
  refine mo_call (rest := []) hx hb hml hown hts hK hP (c_X4_isTitle l D cI o a μ hh x) (kV_X4_isTitle hts ml_X4_65 ⟨(Nat.le_of_ble_eq_true rfl), (Nat.le_of_ble_eq_true rfl)⟩) rfl hl.1 rfl (Nat.le_of_ble_eq_true rfl) dX4_shelf_2 (Nat.zero_le _) (Nat.zero_le _) ?_
  refine lv_if_ne (tgt := 11) hx hb dX4_shelf_5 (by decide) (fun c_5 => ?_) (fun c_5 => ?_)
  · have v_5 := isTitle_okm (μ := μ) (by with_reducible assumption) c_5
    have vb_5 := v_5.1
    refine lv_iload_n hx hb dX4_shelf_11 rfl (lv_at hl 2 rfl) ?_
    refine lv_iconst (v := 0) hx hb dX4_shelf_12 (by decide) ?_
    refine lv_bipush (v := 60) hx hb dX4_shelf_13 (by decide) ?_
    refine cl_S (rest := []) hx hb hml hown hts (c_X4_in l y 0 60) (kS_X4_in hts ml_X4_30 ⟨(Nat.le_of_ble_eq_true rfl), (Nat.le_of_ble_eq_true rfl)⟩) rfl hl.1 rfl (Nat.le_of_ble_eq_true rfl) dX4_shelf_15 (Nat.zero_le _) (Nat.zero_le _) ?_
    refine lv_if_ne (tgt := 24) hx hb dX4_shelf_18 (by decide) (fun c_18 => ?_) (fun c_18 => ?_)
    · have v_18 := inN 60 c_18 (by decide) rfl (by decide)
      have vb_18 := v_18.1
      refine lv_aload_n hx hb dX4_shelf_24 rfl (lv_at hl 0 rfl) ?_
      refine lv_iload_n hx hb dX4_shelf_25 rfl (lv_at hl 1 rfl) ?_
      refine lv_iconst (v := 0) hx hb dX4_shelf_26 (by decide) ?_
      refine mo_call (rest := []) hx hb hml hown hts hK hP (c_X4_ofTitle l D cI o a μ hh x 0 (by first | with_reducible assumption | exact okM_1 (by with_reducible assumption))) (kV_X4_ofTitle hts ml_X4_87 ⟨(Nat.le_of_ble_eq_true rfl), (Nat.le_of_ble_eq_true rfl)⟩) rfl hl.1 rfl (Nat.le_of_ble_eq_true rfl) dX4_shelf_27 (Nat.zero_le _) (Nat.zero_le _) ?_
      refine lv_iload_n hx hb dX4_shelf_30 rfl (lv_at hl 2 rfl) ?_
      refine lv_isub hx hb dX4_shelf_31 ?_
      refine lv_istore_n (lv' := [(3, .int ((f_X4_ofTitle μ x 0) - y)), (0, .ref (o)), (1, .int (x)), (2, .int (y))]) hx hb dX4_shelf_32 rfl hl (by decide) rfl (fun ls hl => ?_)
      refine lv_iload_n hx hb dX4_shelf_33 rfl (lv_at hl 0 rfl) ?_
      refine lv_ineg hx hb dX4_shelf_34 ?_
      refine lv_aload_n hx hb dX4_shelf_35 rfl (lv_at hl 1 rfl) ?_
      refine lv_iload_n hx hb dX4_shelf_36 rfl (lv_at hl 2 rfl) ?_
      refine lv_iconst (v := 4) hx hb dX4_shelf_37 (by decide) ?_
      refine mo_call (rest := [.int (-((f_X4_ofTitle μ x 0) - y))]) hx hb hml hown hts hK hP (c_X4_ofTitle l D cI o a μ hh x 4 (by first | with_reducible assumption | exact okM_1 (by with_reducible assumption))) (kV_X4_ofTitle hts ml_X4_87 ⟨(Nat.le_of_ble_eq_true rfl), (Nat.le_of_ble_eq_true rfl)⟩) rfl hl.1 rfl (Nat.le_of_ble_eq_true rfl) dX4_shelf_38 (Nat.zero_le _) (Nat.zero_le _) ?_
      refine lv_icmp_le (tgt := 47) hx hb dX4_shelf_41 (by decide) (fun c_41 => ?_) (fun c_41 => ?_)
      · refine lv_aload_n hx hb dX4_shelf_47 rfl (lv_at hl 1 rfl) ?_
        refine mo_callV (rest := []) hx hb hml hown hts hK hP hD hS (c_X4_saves l D cI o a μ hh (by with_reducible assumption)) (kV_X4_saves hts ml_X4_62 ⟨(Nat.le_of_ble_eq_true rfl), (Nat.le_of_ble_eq_true rfl)⟩) rfl hl.1 rfl (Nat.le_of_ble_eq_true rfl) dX4_shelf_48 (Nat.zero_le _) (Nat.zero_le _) (fun H locs hP hS => ?_)
        have hok_sv := saves_ok (μ := μ) (by with_reducible assumption)
        obtain ⟨hsn, hst, hsc⟩ := saves_n (μ := μ) (by with_reducible assumption)
        refine lv_aload_n hx hb dX4_shelf_51 rfl (lv_at hl 1 rfl) ?_
        refine mo_g0 hx hb hts hown hK hP dX4_shelf_52 ?_
        refine lv_iconst (v := 1) hx hb dX4_shelf_55 (by decide) ?_
        refine mo_r0 hx hb hK hP (1) rfl (by omega) (v := (s_X4_saves μ) 0 1) rfl dX4_shelf_56 ?_
        refine lv_iconst (v := 1) hx hb dX4_shelf_57 (by decide) ?_
        refine lv_isub hx hb dX4_shelf_58 ?_
        refine lv_istore (lv' := [(4, .int (((s_X4_saves μ) 0 1) - 1)), (3, .int ((f_X4_ofTitle μ x 0) - y)), (0, .ref (o)), (1, .int (x)), (2, .int (y))]) hx hb dX4_shelf_59 hl (by decide) rfl (fun ls hl => ?_)
        have K_108 : ∀ (H : Heap) (locs : List Loc), va_P D vwCl (moW cI o a ((g_X4_shelf_61 μ x y (mN μ + 1) (mN (s_X4_saves μ)) ((f_X4_ofTitle μ x 0) - y) (s_X4_saves μ)).2) hh) H → va_S (moA o a) s.heap H locs → ∀ ls, lv_has ls 5 [(0, .ref (o)), (1, .int (x)), (2, .int (y)), (3, .int ((g_X4_shelf_61 μ x y (mN μ + 1) (mN (s_X4_saves μ)) ((f_X4_ofTitle μ x 0) - y) (s_X4_saves μ)).1))] → W p l e rm_X4_shelf s m (([.ref (o), .int (x), .int (y)] : List Value).toArray) below meth c H locs 0 0 (MQ below (moQ D cI o a hh (m_X4_shelf μ x y)) ([.ref (o), .int (x), .int (y)] : List Value).toArray s 0 0 (moA o a)) (F0 m 108 ls []) := by
          intro H locs hP hS ls hl
          refine lv_iconst (v := 0) hx hb dX4_shelf_108 (by decide) ?_
          refine lv_istore (lv' := [(4, .int (0)), (0, .ref (o)), (1, .int (x)), (2, .int (y)), (3, .int ((g_X4_shelf_61 μ x y (mN μ + 1) (mN (s_X4_saves μ)) ((f_X4_ofTitle μ x 0) - y) (s_X4_saves μ)).1))]) hx hb dX4_shelf_109 hl (by decide) rfl (fun ls hl => ?_)
          have K_164 : ∀ (H : Heap) (locs : List Loc), va_P D vwCl (moW cI o a (g_X4_shelf_111 μ x y (mN μ + 1) 0 ((g_X4_shelf_61 μ x y (mN μ + 1) (mN (s_X4_saves μ)) ((f_X4_ofTitle μ x 0) - y) (s_X4_saves μ)).1) ((g_X4_shelf_61 μ x y (mN μ + 1) (mN (s_X4_saves μ)) ((f_X4_ofTitle μ x 0) - y) (s_X4_saves μ)).2)) hh) H → va_S (moA o a) s.heap H locs → ∀ ls, lv_has ls 5 [(0, .ref (o)), (1, .int (x)), (2, .int (y))] → W p l e rm_X4_shelf s m (([.ref (o), .int (x), .int (y)] : List Value).toArray) below meth c H locs 0 0 (MQ below (moQ D cI o a hh (m_X4_shelf μ x y)) ([.ref (o), .int (x), .int (y)] : List Value).toArray s 0 0 (moA o a)) (F0 m 164 ls []) := by
            intro H locs hP hS ls hl
            have hon2 : okN (g_X4_shelf_111 μ x y (mN μ + 1) 0 ((g_X4_shelf_61 μ x y (mN μ + 1) (mN (s_X4_saves μ)) ((f_X4_ofTitle μ x 0) - y) (s_X4_saves μ)).1) ((g_X4_shelf_61 μ x y (mN μ + 1) (mN (s_X4_saves μ)) ((f_X4_ofTitle μ x 0) - y) (s_X4_saves μ)).2)) := okN_of hok (by rw [shelf_h1, shelf_g1, saves_lo hok (by decide)])
            refine lv_aload_n hx hb dX4_shelf_164 rfl (lv_at hl 0 rfl) ?_
            refine lv_iload_n hx hb dX4_shelf_165 rfl (lv_at hl 1 rfl) ?_
            refine lv_iconst (v := 4) hx hb dX4_shelf_166 (by decide) ?_
            refine mo_call (rest := []) hx hb hml hown hts hK hP (c_X4_ofTitle l D cI o a (g_X4_shelf_111 μ x y (mN μ + 1) 0 ((g_X4_shelf_61 μ x y (mN μ + 1) (mN (s_X4_saves μ)) ((f_X4_ofTitle μ x 0) - y) (s_X4_saves μ)).1) ((g_X4_shelf_61 μ x y (mN μ + 1) (mN (s_X4_saves μ)) ((f_X4_ofTitle μ x 0) - y) (s_X4_saves μ)).2)) hh x 4 (by first | with_reducible assumption | exact okM_1 (by with_reducible assumption))) (kV_X4_ofTitle hts ml_X4_87 ⟨(Nat.le_of_ble_eq_true rfl), (Nat.le_of_ble_eq_true rfl)⟩) rfl hl.1 rfl (Nat.le_of_ble_eq_true rfl) dX4_shelf_167 (Nat.zero_le _) (Nat.zero_le _) ?_
            exact mo_finM hx hb hr hlk hK hP hS (br_n c_5 (br_n c_18 (br_p c_41 rfl))) dX4_shelf_170
          have L_111 : ∀ (fu : Nat) (k : Nat) (x3 : Int32) (ω : Nat → Nat → Int32), mN μ - k < fu → k ≤ mN μ → ω 0 1 = nI (mN μ) → g_X4_shelf_111 μ x y fu k x3 ω = g_X4_shelf_111 μ x y (mN μ + 1) 0 ((g_X4_shelf_61 μ x y (mN μ + 1) (mN (s_X4_saves μ)) ((f_X4_ofTitle μ x 0) - y) (s_X4_saves μ)).1) ((g_X4_shelf_61 μ x y (mN μ + 1) (mN (s_X4_saves μ)) ((f_X4_ofTitle μ x 0) - y) (s_X4_saves μ)).2) → ∀ (H : Heap) (locs : List Loc), va_P D vwCl (moW cI o a ω hh) H → va_S (moA o a) s.heap H locs → ∀ ls, lv_has ls 5 [(0, .ref (o)), (1, .int (x)), (2, .int (y)), (4, .int (nI k)), (3, .int (x3))] → W p l e rm_X4_shelf s m (([.ref (o), .int (x), .int (y)] : List Value).toArray) below meth c H locs 0 0 (MQ below (moQ D cI o a hh (m_X4_shelf μ x y)) ([.ref (o), .int (x), .int (y)] : List Value).toArray s 0 0 (moA o a)) (F0 m 111 ls []) := by
            intro fu
            induction fu with
            | zero => intro k x3 ω hm; exact absurd hm (Nat.not_lt_zero _)
            | succ fu ih =>
              intro k x3 ω hm hkN hc hg_111 H locs hP hS ls hl
              refine lv_iload hx hb dX4_shelf_111 (lv_at hl 3 rfl) ?_
              refine lv_aload_n hx hb dX4_shelf_113 rfl (lv_at hl 0 rfl) ?_
              refine mo_g0 hx hb hts hown hK hP dX4_shelf_114 ?_
              refine lv_iconst (v := 1) hx hb dX4_shelf_117 (by decide) ?_
              refine mo_r0 hx hb hK hP (1) rfl (by omega) (v := ω 0 1) rfl dX4_shelf_118 ?_
              refine lv_icmp_geN (k) (mN μ) hx hb rfl hc (by omega) (by omega) (tgt := 164) dX4_shelf_119 (by decide) (fun c_119 => ?_) (fun c_119 => ?_)
              · have ex : ω = g_X4_shelf_111 μ x y (mN μ + 1) 0 ((g_X4_shelf_61 μ x y (mN μ + 1) (mN (s_X4_saves μ)) ((f_X4_ofTitle μ x 0) - y) (s_X4_saves μ)).1) ((g_X4_shelf_61 μ x y (mN μ + 1) (mN (s_X4_saves μ)) ((f_X4_ofTitle μ x 0) - y) (s_X4_saves μ)).2) := ((br_p c_119 rfl) : ω = g_X4_shelf_111 μ x y (fu + 1) k x3 ω).trans hg_111
                exact K_164 _ _ (by rw [← ex]; exact hP) hS ls (lv_sub hl [0, 1, 2] rfl)
              refine lv_iload_n hx hb dX4_shelf_122 rfl (lv_at hl 4 rfl) ?_
              refine lv_if_ge (tgt := 158) hx hb dX4_shelf_123 (by decide) (fun c_123 => ?_) (fun c_123 => ?_)
              · refine lv_iinc (v := nI (k + 1)) (lv' := [(4, .int (nI (k + 1))), (0, .ref (o)), (1, .int (x)), (2, .int (y)), (3, .int (x3))]) hx hb dX4_shelf_158 hl (k := 3) rfl (nI_c1 _) (by decide) rfl (fun ls hl => ?_)
                refine lv_goto (tgt := 111) hx hb dX4_shelf_161 (by decide) ?_
                exact ih (k + 1) x3 ω (by omega) (by omega) (by first | exact hc | (rw [sets_ne (by omega)]; exact hc)) (((br_n c_119 (br_p c_123 rfl)) : g_X4_shelf_111 μ x y fu (k + 1) x3 ω = g_X4_shelf_111 μ x y (fu + 1) k x3 ω).trans hg_111) _ _ hP hS ls (lv_sub hl [1, 2, 3, 0, 4] rfl)
              refine lv_aload_n hx hb dX4_shelf_126 rfl (lv_at hl 0 rfl) ?_
              refine lv_iload hx hb dX4_shelf_127 (lv_at hl 3 rfl) ?_
              refine lv_iconst (v := 0) hx hb dX4_shelf_129 (by decide) ?_
              refine mo_call (rest := []) hx hb hml hown hts hK hP (c_X4_of l D cI o a ω hh (nI k) k rfl 0 0 rfl (by first | with_reducible assumption | omega)) (kV_X4_of hts ml_X4_34 ⟨(Nat.le_of_ble_eq_true rfl), (Nat.le_of_ble_eq_true rfl)⟩) rfl hl.1 rfl (Nat.le_of_ble_eq_true rfl) dX4_shelf_130 (Nat.zero_le _) (Nat.zero_le _) ?_
              refine lv_iload_n hx hb dX4_shelf_133 rfl (lv_at hl 1 rfl) ?_
              refine lv_icmp_ne (tgt := 158) hx hb dX4_shelf_134 (by decide) (fun c_134 => ?_) (fun c_134 => ?_)
              · refine lv_iinc (v := nI (k + 1)) (lv' := [(4, .int (nI (k + 1))), (0, .ref (o)), (1, .int (x)), (2, .int (y)), (3, .int (x3))]) hx hb dX4_shelf_158 hl (k := 3) rfl (nI_c1 _) (by decide) rfl (fun ls hl => ?_)
                refine lv_goto (tgt := 111) hx hb dX4_shelf_161 (by decide) ?_
                exact ih (k + 1) x3 ω (by omega) (by omega) (by first | exact hc | (rw [sets_ne (by omega)]; exact hc)) (((br_n c_119 (br_n c_123 (br_n c_134 rfl))) : g_X4_shelf_111 μ x y fu (k + 1) x3 ω = g_X4_shelf_111 μ x y (fu + 1) k x3 ω).trans hg_111) _ _ hP hS ls (lv_sub hl [1, 2, 3, 0, 4] rfl)
              refine lv_aload_n hx hb dX4_shelf_137 rfl (lv_at hl 0 rfl) ?_
              refine lv_iload hx hb dX4_shelf_138 (lv_at hl 3 rfl) ?_
              refine lv_iconst (v := 4) hx hb dX4_shelf_140 (by decide) ?_
              refine mo_call (rest := []) hx hb hml hown hts hK hP (c_X4_is l D cI o a ω hh (nI k) k rfl 4 (by first | with_reducible assumption | omega)) (kV_X4_is hts ml_X4_55 ⟨(Nat.le_of_ble_eq_true rfl), (Nat.le_of_ble_eq_true rfl)⟩) rfl hl.1 rfl (Nat.le_of_ble_eq_true rfl) dX4_shelf_141 (Nat.zero_le _) (Nat.zero_le _) ?_
              refine lv_if_eq (tgt := 158) hx hb dX4_shelf_144 (by decide) (fun c_144 => ?_) (fun c_144 => ?_)
              · refine lv_iinc (v := nI (k + 1)) (lv' := [(4, .int (nI (k + 1))), (0, .ref (o)), (1, .int (x)), (2, .int (y)), (3, .int (x3))]) hx hb dX4_shelf_158 hl (k := 3) rfl (nI_c1 _) (by decide) rfl (fun ls hl => ?_)
                refine lv_goto (tgt := 111) hx hb dX4_shelf_161 (by decide) ?_
                exact ih (k + 1) x3 ω (by omega) (by omega) (by first | exact hc | (rw [sets_ne (by omega)]; exact hc)) (((br_n c_119 (br_n c_123 (br_p c_134 (br_p c_144 rfl)))) : g_X4_shelf_111 μ x y fu (k + 1) x3 ω = g_X4_shelf_111 μ x y (fu + 1) k x3 ω).trans hg_111) _ _ hP hS ls (lv_sub hl [1, 2, 3, 0, 4] rfl)
              refine lv_aload_n hx hb dX4_shelf_147 rfl (lv_at hl 0 rfl) ?_
              refine lv_iload hx hb dX4_shelf_148 (lv_at hl 3 rfl) ?_
              refine lv_iconst (v := 3) hx hb dX4_shelf_150 (by decide) ?_
              refine lv_iconst (v := 0) hx hb dX4_shelf_151 (by decide) ?_
              refine mo_callV (rest := []) hx hb hml hown hts hK hP hD hS (c_X4_sets l D cI o a ω hh (nI k) k rfl 3 3 rfl 0 (by first | with_reducible assumption | omega)) (kV_X4_sets hts ml_X4_115 ⟨(Nat.le_of_ble_eq_true rfl), (Nat.le_of_ble_eq_true rfl)⟩) rfl hl.1 rfl (Nat.le_of_ble_eq_true rfl) dX4_shelf_152 (Nat.zero_le _) (Nat.zero_le _) (fun H locs hP hS => ?_)
              refine lv_iinc (v := x3 + 1) (lv' := [(3, .int (x3 + 1)), (0, .ref (o)), (1, .int (x)), (2, .int (y)), (4, .int (nI k))]) hx hb dX4_shelf_155 hl (k := 4) rfl rfl (by decide) rfl (fun ls hl => ?_)
              refine lv_iinc (v := nI (k + 1)) (lv' := [(4, .int (nI (k + 1))), (3, .int (x3 + 1)), (0, .ref (o)), (1, .int (x)), (2, .int (y))]) hx hb dX4_shelf_158 hl (k := 4) rfl (nI_c1 _) (by decide) rfl (fun ls hl => ?_)
              refine lv_goto (tgt := 111) hx hb dX4_shelf_161 (by decide) ?_
              exact ih (k + 1) (x3 + 1) (s_X4_sets ω k 3 0) (by omega) (by omega) (by first | exact hc | (rw [sets_ne (by omega)]; exact hc)) (((br_n c_119 (br_n c_123 (br_p c_134 (br_n c_144 rfl)))) : g_X4_shelf_111 μ x y fu (k + 1) (x3 + 1) (s_X4_sets ω k 3 0) = g_X4_shelf_111 μ x y (fu + 1) k x3 ω).trans hg_111) _ _ hP hS ls (lv_sub hl [2, 3, 4, 0, 1] rfl)
          exact L_111 (mN μ + 1) 0 ((g_X4_shelf_61 μ x y (mN μ + 1) (mN (s_X4_saves μ)) ((f_X4_ofTitle μ x 0) - y) (s_X4_saves μ)).1) ((g_X4_shelf_61 μ x y (mN μ + 1) (mN (s_X4_saves μ)) ((f_X4_ofTitle μ x 0) - y) (s_X4_saves μ)).2) (by omega) (by omega) (by rw [shelf_g1, saves_lo hok (by decide)]; exact (okM_1 hok).1) rfl _ _ hP hS ls (lv_sub hl [1, 2, 3, 0, 4] rfl)
        have L_61 : ∀ (fu : Nat) (k : Nat) (x3 : Int32) (ω : Nat → Nat → Int32), k < fu → k ≤ mN μ → ω 0 1 = nI (mN μ) → g_X4_shelf_61 μ x y fu k x3 ω = g_X4_shelf_61 μ x y (mN μ + 1) (mN (s_X4_saves μ)) ((f_X4_ofTitle μ x 0) - y) (s_X4_saves μ) → ∀ (H : Heap) (locs : List Loc), va_P D vwCl (moW cI o a ω hh) H → va_S (moA o a) s.heap H locs → ∀ ls, lv_has ls 5 [(0, .ref (o)), (1, .int (x)), (2, .int (y)), (4, .int (nI k - 1)), (3, .int (x3))] → W p l e rm_X4_shelf s m (([.ref (o), .int (x), .int (y)] : List Value).toArray) below meth c H locs 0 0 (MQ below (moQ D cI o a hh (m_X4_shelf μ x y)) ([.ref (o), .int (x), .int (y)] : List Value).toArray s 0 0 (moA o a)) (F0 m 61 ls []) := by
          intro fu
          induction fu with
          | zero => intro k x3 ω hm; exact absurd hm (Nat.not_lt_zero _)
          | succ fu ih =>
            intro k x3 ω hm hkN hc hg_61 H locs hP hS ls hl
            refine lv_iload hx hb dX4_shelf_61 (lv_at hl 3 rfl) ?_
            refine lv_if_ltD (k) hx hb rfl (by omega) (tgt := 108) dX4_shelf_63 (by decide) (fun c_63 => ?_) (fun c_63 => ?_)
            · have ex : (x3, ω) = g_X4_shelf_61 μ x y (mN μ + 1) (mN (s_X4_saves μ)) ((f_X4_ofTitle μ x 0) - y) (s_X4_saves μ) := ((br_p c_63 rfl) : (x3, ω) = g_X4_shelf_61 μ x y (fu + 1) k x3 ω).trans hg_61
              have ex0 : x3 = (g_X4_shelf_61 μ x y (mN μ + 1) (mN (s_X4_saves μ)) ((f_X4_ofTitle μ x 0) - y) (s_X4_saves μ)).1 := congrArg (fun z => z.1) ex
              have ex1 : ω = (g_X4_shelf_61 μ x y (mN μ + 1) (mN (s_X4_saves μ)) ((f_X4_ofTitle μ x 0) - y) (s_X4_saves μ)).2 := congrArg (fun z => z.2) ex
              exact K_108 _ _ (by rw [← ex1]; exact hP) hS ls (by rw [← ex0]; exact lv_sub hl [0, 1, 2, 4] rfl)
            refine lv_iload_n hx hb dX4_shelf_66 rfl (lv_at hl 4 rfl) ?_
            refine lv_if_le (tgt := 102) hx hb dX4_shelf_67 (by decide) (fun c_67 => ?_) (fun c_67 => ?_)
            · refine lv_iinc (v := nI (k - 1) - 1) (lv' := [(4, .int (nI (k - 1) - 1)), (0, .ref (o)), (1, .int (x)), (2, .int (y)), (3, .int (x3))]) hx hb dX4_shelf_102 hl (k := 3) rfl (dec_inc c_63) (by decide) rfl (fun ls hl => ?_)
              refine lv_goto (tgt := 61) hx hb dX4_shelf_105 (by decide) ?_
              exact ih (k - 1) x3 ω (by omega) (by omega) (by first | exact hc | (rw [sets_ne (by omega)]; exact hc)) (((br_n c_63 (br_p c_67 rfl)) : g_X4_shelf_61 μ x y fu (k - 1) x3 ω = g_X4_shelf_61 μ x y (fu + 1) k x3 ω).trans hg_61) _ _ hP hS ls (lv_sub hl [1, 2, 3, 0, 4] rfl)
            refine lv_aload_n hx hb dX4_shelf_70 rfl (lv_at hl 0 rfl) ?_
            refine lv_iload hx hb dX4_shelf_71 (lv_at hl 3 rfl) ?_
            refine lv_iconst (v := 0) hx hb dX4_shelf_73 (by decide) ?_
            refine mo_call (rest := []) hx hb hml hown hts hK hP (c_X4_of l D cI o a ω hh (nI k - 1) (k - 1) (dec_at c_63) 0 0 rfl (by first | with_reducible assumption | omega)) (kV_X4_of hts ml_X4_34 ⟨(Nat.le_of_ble_eq_true rfl), (Nat.le_of_ble_eq_true rfl)⟩) rfl hl.1 rfl (Nat.le_of_ble_eq_true rfl) dX4_shelf_74 (Nat.zero_le _) (Nat.zero_le _) ?_
            refine lv_iload_n hx hb dX4_shelf_77 rfl (lv_at hl 1 rfl) ?_
            refine lv_icmp_ne (tgt := 102) hx hb dX4_shelf_78 (by decide) (fun c_78 => ?_) (fun c_78 => ?_)
            · refine lv_iinc (v := nI (k - 1) - 1) (lv' := [(4, .int (nI (k - 1) - 1)), (0, .ref (o)), (1, .int (x)), (2, .int (y)), (3, .int (x3))]) hx hb dX4_shelf_102 hl (k := 3) rfl (dec_inc c_63) (by decide) rfl (fun ls hl => ?_)
              refine lv_goto (tgt := 61) hx hb dX4_shelf_105 (by decide) ?_
              exact ih (k - 1) x3 ω (by omega) (by omega) (by first | exact hc | (rw [sets_ne (by omega)]; exact hc)) (((br_n c_63 (br_n c_67 (br_n c_78 rfl))) : g_X4_shelf_61 μ x y fu (k - 1) x3 ω = g_X4_shelf_61 μ x y (fu + 1) k x3 ω).trans hg_61) _ _ hP hS ls (lv_sub hl [1, 2, 3, 0, 4] rfl)
            refine lv_aload_n hx hb dX4_shelf_81 rfl (lv_at hl 0 rfl) ?_
            refine lv_iload hx hb dX4_shelf_82 (lv_at hl 3 rfl) ?_
            refine lv_iconst (v := 0) hx hb dX4_shelf_84 (by decide) ?_
            refine mo_call (rest := []) hx hb hml hown hts hK hP (c_X4_is l D cI o a ω hh (nI k - 1) (k - 1) (dec_at c_63) 0 (by first | with_reducible assumption | omega)) (kV_X4_is hts ml_X4_55 ⟨(Nat.le_of_ble_eq_true rfl), (Nat.le_of_ble_eq_true rfl)⟩) rfl hl.1 rfl (Nat.le_of_ble_eq_true rfl) dX4_shelf_85 (Nat.zero_le _) (Nat.zero_le _) ?_
            refine lv_if_eq (tgt := 102) hx hb dX4_shelf_88 (by decide) (fun c_88 => ?_) (fun c_88 => ?_)
            · refine lv_iinc (v := nI (k - 1) - 1) (lv' := [(4, .int (nI (k - 1) - 1)), (0, .ref (o)), (1, .int (x)), (2, .int (y)), (3, .int (x3))]) hx hb dX4_shelf_102 hl (k := 3) rfl (dec_inc c_63) (by decide) rfl (fun ls hl => ?_)
              refine lv_goto (tgt := 61) hx hb dX4_shelf_105 (by decide) ?_
              exact ih (k - 1) x3 ω (by omega) (by omega) (by first | exact hc | (rw [sets_ne (by omega)]; exact hc)) (((br_n c_63 (br_n c_67 (br_p c_78 (br_p c_88 rfl)))) : g_X4_shelf_61 μ x y fu (k - 1) x3 ω = g_X4_shelf_61 μ x y (fu + 1) k x3 ω).trans hg_61) _ _ hP hS ls (lv_sub hl [1, 2, 3, 0, 4] rfl)
            refine lv_aload_n hx hb dX4_shelf_91 rfl (lv_at hl 0 rfl) ?_
            refine lv_iload hx hb dX4_shelf_92 (lv_at hl 3 rfl) ?_
            refine lv_iconst (v := 3) hx hb dX4_shelf_94 (by decide) ?_
            refine lv_iconst (v := 4) hx hb dX4_shelf_95 (by decide) ?_
            refine mo_callV (rest := []) hx hb hml hown hts hK hP hD hS (c_X4_sets l D cI o a ω hh (nI k - 1) (k - 1) (dec_at c_63) 3 3 rfl 4 (by first | with_reducible assumption | omega)) (kV_X4_sets hts ml_X4_115 ⟨(Nat.le_of_ble_eq_true rfl), (Nat.le_of_ble_eq_true rfl)⟩) rfl hl.1 rfl (Nat.le_of_ble_eq_true rfl) dX4_shelf_96 (Nat.zero_le _) (Nat.zero_le _) (fun H locs hP hS => ?_)
            refine lv_iinc (v := x3 - 1) (lv' := [(3, .int (x3 - 1)), (0, .ref (o)), (1, .int (x)), (2, .int (y)), (4, .int (nI k - 1))]) hx hb dX4_shelf_99 hl (k := 4) rfl (iinc_m _) (by decide) rfl (fun ls hl => ?_)
            refine lv_iinc (v := nI (k - 1) - 1) (lv' := [(4, .int (nI (k - 1) - 1)), (3, .int (x3 - 1)), (0, .ref (o)), (1, .int (x)), (2, .int (y))]) hx hb dX4_shelf_102 hl (k := 4) rfl (dec_inc c_63) (by decide) rfl (fun ls hl => ?_)
            refine lv_goto (tgt := 61) hx hb dX4_shelf_105 (by decide) ?_
            exact ih (k - 1) (x3 - 1) (s_X4_sets ω (k - 1) 3 4) (by omega) (by omega) (by first | exact hc | (rw [sets_ne (by omega)]; exact hc)) (((br_n c_63 (br_n c_67 (br_p c_78 (br_n c_88 rfl)))) : g_X4_shelf_61 μ x y fu (k - 1) (x3 - 1) (s_X4_sets ω (k - 1) 3 4) = g_X4_shelf_61 μ x y (fu + 1) k x3 ω).trans hg_61) _ _ hP hS ls (lv_sub hl [2, 3, 4, 0, 1] rfl)
        rw [(okM_1 hok_sv).1] at hl
        exact L_61 (mN μ + 1) (mN (s_X4_saves μ)) ((f_X4_ofTitle μ x 0) - y) (s_X4_saves μ) (by omega) (by omega) (by rw [saves_lo hok (by decide)]; exact (okM_1 hok).1) rfl _ _ hP hS ls (lv_sub hl [2, 3, 4, 0, 1] rfl)
      refine lv_bipush (v := (-4)) hx hb dX4_shelf_44 (by decide) ?_
      exact mo_finM hx hb hr hlk hK hP hS (br_n c_5 (br_n c_18 (br_n c_41 rfl))) dX4_shelf_46
    refine lv_bipush (v := (-3)) hx hb dX4_shelf_21 (by decide) ?_
    exact mo_finM hx hb hr hlk hK hP hS (br_n c_5 (br_p c_18 rfl)) dX4_shelf_23
  refine lv_bipush (v := (-2)) hx hb dX4_shelf_8 (by decide) ?_
  exact mo_finM hx hb hr hlk hK hP hS (br_p c_5 rfl) dX4_shelf_10
theorem kV_X4_shelf {R : Room} {s : State} {args : Array Value} {own : String} {idx : Nat} {c0 : Cond} (hts : ∀ w ∈ c0 :: W0, w.before args s = true) (hl : Cond.methodLink own idx yX4_shelf ∈ W0) (hR : rm_X4_shelf.frames + 1 ≤ R.frames ∧ 8 + (5 + 11) + rm_X4_shelf.locals ≤ R.locals) : CallW R s args own RX4 idx yX4_shelf cX4_shelf 5 (some .int) (Cond.code yX4_shelf cX4_shelf 5 (some .int) :: W0) rm_X4_shelf 0 0 2 := cwV 2 hts (gdV hl mi_yX4_shelf ms_yX4_shelf mini_X4 mc_yX4_shelf) rfl rfl rfl (by decide +kernel) hR

/-! X4.undo -/
def m_X4_undo (μ : Nat → Nat → Int32) : Int32 × (Nat → Nat → Int32) := (if mS μ = 0 then ((-4), μ) else (((s_X4_copies μ (mS μ) 0) 1 0) - 1, (shS (s_X4_copies μ (mS μ) 0) 1 (((s_X4_copies μ (mS μ) 0) 1 0) - 1))))
abbrev rm_X4_undo : Room := { frames := 1, cells := 0, slots := 0, locals := 23 }
set_option maxRecDepth 100000 in
theorem c_X4_undo (l : Launch) (D : va_G) (cI : ClassId) (o : Nat) (a : Nat → Nat) (μ : Nat → Nat → Int32) (hh : Int64) (hok : okM μ) :
    Met l yX4_undo (Cond.code yX4_undo cX4_undo 1 (some .int) :: W0) rm_X4_undo (va_Pc [.ref o] (moM D cI o a μ hh)) (moQ D cI o a hh (m_X4_undo μ)) 0 0 (moA o a) := by
  refine st_gen (cc := cX4_undo) (maxL := 1) (ret := some .int) (own := RX4) (by decide) rfl (Nat.le_of_ble_eq_true rfl) ?_
  intro p e s m below meth c ls C hPre hl
  obtain ⟨hx, hb, hr, hml, hown, hts, hlk⟩ := C
  obtain ⟨⟨hP, hK⟩, hD⟩ := hPre
  have hS : va_S (moA o a) s.heap s.heap [] := va_S.rf
  have hl : lv_has ls 1 [(0, .ref (o))] := hl
  obtain ⟨hT6, hC6, hN6, hS5⟩ := okM_b hok
  refine lv_aload_n hx hb dX4_undo_0 rfl (lv_at hl 0 rfl) ?_
  refine mo_g1 hx hb hts hown hK hP (v := μ 1 0) rfl dX4_undo_1 ?_
  refine lv_if_neN (mS μ) hx hb (okM_s (μ := μ) (by with_reducible assumption)) (by omega) (tgt := 10) dX4_undo_4 (by decide) (fun c_4 => ?_) (fun c_4 => ?_)
  · refine lv_aload_n hx hb dX4_undo_10 rfl (lv_at hl 0 rfl) ?_
    refine lv_aload_n hx hb dX4_undo_11 rfl (lv_at hl 0 rfl) ?_
    refine mo_g1 hx hb hts hown hK hP (v := μ 1 0) rfl dX4_undo_12 ?_
    refine lv_iconst (v := 0) hx hb dX4_undo_15 (by decide) ?_
    refine mo_callV (rest := []) hx hb hml hown hts hK hP hD hS (c_X4_copies l D cI o a μ hh (μ 1 0) (mS μ) (okM_s (μ := μ) (by with_reducible assumption)) 0 0 rfl (by first | with_reducible assumption | omega) (by first | with_reducible assumption | omega)) (kV_X4_copies hts ml_X4_26 ⟨(Nat.le_of_ble_eq_true rfl), (Nat.le_of_ble_eq_true rfl)⟩) rfl hl.1 rfl (Nat.le_of_ble_eq_true rfl) dX4_undo_16 (Nat.zero_le _) (Nat.zero_le _) (fun H locs hP hS => ?_)
    refine lv_aload_n hx hb dX4_undo_19 rfl (lv_at hl 0 rfl) ?_
    refine lv_dup hx hb dX4_undo_20 rfl ?_
    refine mo_g1 hx hb hts hown hK hP (v := (s_X4_copies μ (mS μ) 0) 1 0) rfl dX4_undo_21 ?_
    refine lv_iconst (v := 1) hx hb dX4_undo_24 (by decide) ?_
    refine lv_isub hx hb dX4_undo_25 ?_
    refine mo_p1 hx hb hts hown hK hP hD hS dX4_undo_26 (fun H locs hP hS => ?_)
    refine lv_aload_n hx hb dX4_undo_29 rfl (lv_at hl 0 rfl) ?_
    refine mo_g1 hx hb hts hown hK hP (v := ((s_X4_copies μ (mS μ) 0) 1 0) - 1) shS_eq dX4_undo_30 ?_
    exact mo_finM hx hb hr hlk hK hP hS (br_n c_4 rfl) dX4_undo_33
  refine lv_bipush (v := (-4)) hx hb dX4_undo_7 (by decide) ?_
  exact mo_finM hx hb hr hlk hK hP hS (br_p c_4 rfl) dX4_undo_9
theorem kV_X4_undo {R : Room} {s : State} {args : Array Value} {own : String} {idx : Nat} {c0 : Cond} (hts : ∀ w ∈ c0 :: W0, w.before args s = true) (hl : Cond.methodLink own idx yX4_undo ∈ W0) (hR : rm_X4_undo.frames + 1 ≤ R.frames ∧ 8 + (1 + 11) + rm_X4_undo.locals ≤ R.locals) : CallW R s args own RX4 idx yX4_undo cX4_undo 1 (some .int) (Cond.code yX4_undo cX4_undo 1 (some .int) :: W0) rm_X4_undo 0 0 0 := cwV 0 hts (gdV hl mi_yX4_undo ms_yX4_undo mini_X4 mc_yX4_undo) rfl rfl rfl (by decide +kernel) hR

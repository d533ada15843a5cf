/-! ===== the text's state ===== -/
def xl (τ : Nat → Nat → Int32) : Nat := tn (τ 1 0)
def xa (τ : Nat → Nat → Int32) : Nat := tn (τ 2 0)
def okX (τ : Nat → Nat → Int32) : Prop := τ 1 0 = nI (xl τ) ∧ xl τ ≤ 100
def okR (τ : Nat → Nat → Int32) : Prop := okX τ ∧ τ 2 0 = nI (xa τ) ∧ xa τ ≤ xl τ
theorem okX_l {τ : Nat → Nat → Int32} (h : okX τ) : τ 1 0 = nI (xl τ) ∧ xl τ ≤ 100 := h
theorem okR_x {τ : Nat → Nat → Int32} (h : okR τ) : okX τ := h.1
theorem okR_a {τ : Nat → Nat → Int32} (h : okR τ) : τ 2 0 = nI (xa τ) ∧ xa τ ≤ xl τ := h.2
theorem okR_eq {τ τ' : Nat → Nat → Int32} (h : okR τ) (e1 : τ' 1 = τ 1) (e2 : τ' 2 = τ 2) : okR τ' := by
  unfold okR okX xl xa
  rw [e1, e2]; exact h
theorem okX_eq {τ τ' : Nat → Nat → Int32} (h : okX τ) (e1 : τ' 1 = τ 1) : okX τ' := by
  unfold okX xl
  rw [e1]; exact h
theorem okR_3 {τ : Nat → Nat → Int32} {v : Int32} (h : okR τ) : okR (shS τ 3 v) := okR_eq h (shS_f (by decide)) (shS_f (by decide))
theorem okR_4 {τ : Nat → Nat → Int32} {v : Int32} (h : okR τ) : okR (shS τ 4 v) := okR_eq h (shS_f (by decide)) (shS_f (by decide))
theorem okR_5 {τ : Nat → Nat → Int32} {v : Int32} (h : okR τ) : okR (shS τ 5 v) := okR_eq h (shS_f (by decide)) (shS_f (by decide))
theorem okR_6 {τ : Nat → Nat → Int32} {v : Int32} (h : okR τ) : okR (shS τ 6 v) := okR_eq h (shS_f (by decide)) (shS_f (by decide))
theorem okR_0 {τ : Nat → Nat → Int32} (h : okX τ) : okR (shS (shS τ 2 0) 3 1) := by
  have e1 : (shS (shS τ 2 0) 3 1) 1 = τ 1 := rfl
  have e : xa (shS (shS τ 2 0) 3 1) = 0 := rfl
  refine ⟨okX_eq h e1, ?_, by rw [e]; omega⟩
  rw [e]; rfl
theorem incX_ok {ω : Nat → Nat → Int32} (h : okR ω) (hlt : xa ω < xl ω) : okR (shS ω 2 (ω 2 0 + 1)) ∧ xa (shS ω 2 (ω 2 0 + 1)) = xa ω + 1 ∧ xl (shS ω 2 (ω 2 0 + 1)) = xl ω := by
  have h1 := okR_a h
  have h2 := okX_l (okR_x h)
  have e0 : (shS ω 2 (ω 2 0 + 1)) 2 0 = nI (xa ω + 1) := by rw [shS_eq, h1.1, nI_1]
  have e : xa (shS ω 2 (ω 2 0 + 1)) = xa ω + 1 := by
    show tn ((shS ω 2 (ω 2 0 + 1)) 2 0) = _
    rw [e0]; exact tn_nI (by omega)
  have e1 : (shS ω 2 (ω 2 0 + 1)) 1 = ω 1 := rfl
  have el : xl (shS ω 2 (ω 2 0 + 1)) = xl ω := rfl
  exact ⟨⟨okX_eq h.1 e1, by rw [e]; exact e0, by rw [e, el]; omega⟩, e, el⟩

/-! X1.startReading -/
def s_X1_startReading (τ : Nat → Nat → Int32) : Nat → Nat → Int32 := (shS (shS τ 2 0) 3 1)
abbrev rm_X1_startReading : Room := { frames := 0, cells := 0, slots := 0, locals := 0 }
set_option maxRecDepth 100000 in
theorem c_X1_startReading (l : Launch) (D : va_G) (cI : ClassId) (o : Nat) (a : Nat → Nat) (τ : Nat → Nat → Int32) :
    Met l yX1_startReading (Cond.code yX1_startReading cX1_startReading 1 (none) :: W0) rm_X1_startReading (va_Pc [.ref o] (txM D cI o a τ)) (txV D cI o a (s_X1_startReading τ)) 0 0 (txA o a) := by
  refine st_gen (cc := cX1_startReading) (maxL := 1) (ret := none) (own := RX1) (by decide) rfl (Nat.le_of_ble_eq_true rfl) ?_
  intro p e s m below meth c ls C hPre hl
  obtain ⟨hx, hb, hr, hml, hown, hts, hlk⟩ := C
  obtain ⟨⟨hP, hK⟩, hD⟩ := hPre
  have hS : va_S (txA o a) s.heap s.heap [] := va_S.rf
  have hl : lv_has ls 1 [(0, .ref (o))] := hl
  refine lv_aload_n hx hb dX1_startReading_0 rfl (lv_at hl 0 rfl) ?_
  refine lv_iconst (v := 0) hx hb dX1_startReading_1 (by decide) ?_
  refine tx_p2 hx hb hts hown hK hP hD hS dX1_startReading_2 (fun H locs hP hS => ?_)
  refine lv_aload_n hx hb dX1_startReading_5 rfl (lv_at hl 0 rfl) ?_
  refine lv_iconst (v := 1) hx hb dX1_startReading_6 (by decide) ?_
  refine tx_p3 hx hb hts hown hK hP hD hS (Or.inr rfl) dX1_startReading_7 (fun H locs hP hS => ?_)
  exact tx_finV hx hb hr hlk hK hP hS rfl dX1_startReading_10
theorem kV_X1_startReading {R : Room} {s : State} {args : Array Value} {own : String} {idx : Nat} {c0 : Cond} (hts : ∀ w ∈ c0 :: W0, w.before args s = true) (hl : Cond.methodLink own idx yX1_startReading ∈ W0) (hR : rm_X1_startReading.frames + 1 ≤ R.frames ∧ 8 + (1 + 11) + rm_X1_startReading.locals ≤ R.locals) : CallW R s args own RX1 idx yX1_startReading cX1_startReading 1 (none) (Cond.code yX1_startReading cX1_startReading 1 (none) :: W0) rm_X1_startReading 0 0 0 := cwV 0 hts (gdV hl mi_yX1_startReading ms_yX1_startReading mini_X1 mc_yX1_startReading) rfl rfl rfl (by decide +kernel) hR

/-! X1.hasMore -/
def f_X1_hasMore (τ : Nat → Nat → Int32) : Int32 := τ 3 0
abbrev rm_X1_hasMore : Room := { frames := 0, cells := 0, slots := 0, locals := 0 }
set_option maxRecDepth 100000 in
theorem c_X1_hasMore (l : Launch) (D : va_G) (cI : ClassId) (o : Nat) (a : Nat → Nat) (τ : Nat → Nat → Int32) (hmz : τ 3 0 = 0 ∨ τ 3 0 = 1) :
    Met l yX1_hasMore (Cond.code yX1_hasMore cX1_hasMore 1 (some .boolean) :: W0) rm_X1_hasMore (va_Pc [.ref o] (txP D cI o a τ)) (vp_Si (fun r => r = f_X1_hasMore τ)) 0 0 (fun _ => False) := by
  refine st_gen (cc := cX1_hasMore) (maxL := 1) (ret := some .boolean) (own := RX1) (by decide) rfl (Nat.le_of_ble_eq_true rfl) ?_
  intro p e s m below meth c ls C hPre hl
  obtain ⟨hx, hb, hr, hml, hown, hts, hlk⟩ := C
  obtain ⟨hP, hK⟩ := hPre
  have hl : lv_has ls 1 [(0, .ref (o))] := hl
  refine lv_aload_n hx hb dX1_hasMore_0 rfl (lv_at hl 0 rfl) ?_
  refine tx_g3 hx hb hts hown hK hP (v := τ 3 0) rfl dX1_hasMore_1 ?_
  exact fin_z hx hb hr hlk (by first | with_reducible assumption | exact Or.inl rfl | exact Or.inr rfl) rfl dX1_hasMore_4
theorem kV_X1_hasMore {R : Room} {s : State} {args : Array Value} {own : String} {idx : Nat} {c0 : Cond} (hts : ∀ w ∈ c0 :: W0, w.before args s = true) (hl : Cond.methodLink own idx yX1_hasMore ∈ W0) (hR : rm_X1_hasMore.frames + 1 ≤ R.frames ∧ 8 + (1 + 11) + rm_X1_hasMore.locals ≤ R.locals) : CallW R s args own RX1 idx yX1_hasMore cX1_hasMore 1 (some .boolean) (Cond.code yX1_hasMore cX1_hasMore 1 (some .boolean) :: W0) rm_X1_hasMore 0 0 0 := cwV 0 hts (gdV hl mi_yX1_hasMore ms_yX1_hasMore mini_X1 mc_yX1_hasMore) rfl rfl rfl (by decide +kernel) hR

/-! X1.word -/
def f_X1_word (τ : Nat → Nat → Int32) : Int32 := τ 4 0
abbrev rm_X1_word : Room := { frames := 0, cells := 0, slots := 0, locals := 0 }
set_option maxRecDepth 100000 in
theorem c_X1_word (l : Launch) (D : va_G) (cI : ClassId) (o : Nat) (a : Nat → Nat) (τ : Nat → Nat → Int32) :
    Met l yX1_word (Cond.code yX1_word cX1_word 1 (some .int) :: W0) rm_X1_word (va_Pc [.ref o] (txP D cI o a τ)) (vp_Si (fun r => r = f_X1_word τ)) 0 0 (fun _ => False) := by
  refine st_gen (cc := cX1_word) (maxL := 1) (ret := some .int) (own := RX1) (by decide) rfl (Nat.le_of_ble_eq_true rfl) ?_
  intro p e s m below meth c ls C hPre hl
  obtain ⟨hx, hb, hr, hml, hown, hts, hlk⟩ := C
  obtain ⟨hP, hK⟩ := hPre
  have hl : lv_has ls 1 [(0, .ref (o))] := hl
  refine lv_aload_n hx hb dX1_word_0 rfl (lv_at hl 0 rfl) ?_
  refine tx_g4 hx hb hts hown hK hP (v := τ 4 0) rfl dX1_word_1 ?_
  exact fin_i hx hb hr hlk rfl dX1_word_4
theorem kV_X1_word {R : Room} {s : State} {args : Array Value} {own : String} {idx : Nat} {c0 : Cond} (hts : ∀ w ∈ c0 :: W0, w.before args s = true) (hl : Cond.methodLink own idx yX1_word ∈ W0) (hR : rm_X1_word.frames + 1 ≤ R.frames ∧ 8 + (1 + 11) + rm_X1_word.locals ≤ R.locals) : CallW R s args own RX1 idx yX1_word cX1_word 1 (some .int) (Cond.code yX1_word cX1_word 1 (some .int) :: W0) rm_X1_word 0 0 0 := cwV 0 hts (gdV hl mi_yX1_word ms_yX1_word mini_X1 mc_yX1_word) rfl rfl rfl (by decide +kernel) hR

/-! X1.first -/
def f_X1_first (τ : Nat → Nat → Int32) : Int32 := τ 5 0
abbrev rm_X1_first : Room := { frames := 0, cells := 0, slots := 0, locals := 0 }
set_option maxRecDepth 100000 in
theorem c_X1_first (l : Launch) (D : va_G) (cI : ClassId) (o : Nat) (a : Nat → Nat) (τ : Nat → Nat → Int32) :
    Met l yX1_first (Cond.code yX1_first cX1_first 1 (some .int) :: W0) rm_X1_first (va_Pc [.ref o] (txP D cI o a τ)) (vp_Si (fun r => r = f_X1_first τ)) 0 0 (fun _ => False) := by
  refine st_gen (cc := cX1_first) (maxL := 1) (ret := some .int) (own := RX1) (by decide) rfl (Nat.le_of_ble_eq_true rfl) ?_
  intro p e s m below meth c ls C hPre hl
  obtain ⟨hx, hb, hr, hml, hown, hts, hlk⟩ := C
  obtain ⟨hP, hK⟩ := hPre
  have hl : lv_has ls 1 [(0, .ref (o))] := hl
  refine lv_aload_n hx hb dX1_first_0 rfl (lv_at hl 0 rfl) ?_
  refine tx_g5 hx hb hts hown hK hP (v := τ 5 0) rfl dX1_first_1 ?_
  exact fin_i hx hb hr hlk rfl dX1_first_4
theorem kV_X1_first {R : Room} {s : State} {args : Array Value} {own : String} {idx : Nat} {c0 : Cond} (hts : ∀ w ∈ c0 :: W0, w.before args s = true) (hl : Cond.methodLink own idx yX1_first ∈ W0) (hR : rm_X1_first.frames + 1 ≤ R.frames ∧ 8 + (1 + 11) + rm_X1_first.locals ≤ R.locals) : CallW R s args own RX1 idx yX1_first cX1_first 1 (some .int) (Cond.code yX1_first cX1_first 1 (some .int) :: W0) rm_X1_first 0 0 0 := cwV 0 hts (gdV hl mi_yX1_first ms_yX1_first mini_X1 mc_yX1_first) rfl rfl rfl (by decide +kernel) hR

/-! X1.second -/
def f_X1_second (τ : Nat → Nat → Int32) : Int32 := τ 6 0
abbrev rm_X1_second : Room := { frames := 0, cells := 0, slots := 0, locals := 0 }
set_option maxRecDepth 100000 in
theorem c_X1_second (l : Launch) (D : va_G) (cI : ClassId) (o : Nat) (a : Nat → Nat) (τ : Nat → Nat → Int32) :
    Met l yX1_second (Cond.code yX1_second cX1_second 1 (some .int) :: W0) rm_X1_second (va_Pc [.ref o] (txP D cI o a τ)) (vp_Si (fun r => r = f_X1_second τ)) 0 0 (fun _ => False) := by
  refine st_gen (cc := cX1_second) (maxL := 1) (ret := some .int) (own := RX1) (by decide) rfl (Nat.le_of_ble_eq_true rfl) ?_
  intro p e s m below meth c ls C hPre hl
  obtain ⟨hx, hb, hr, hml, hown, hts, hlk⟩ := C
  obtain ⟨hP, hK⟩ := hPre
  have hl : lv_has ls 1 [(0, .ref (o))] := hl
  refine lv_aload_n hx hb dX1_second_0 rfl (lv_at hl 0 rfl) ?_
  refine tx_g6 hx hb hts hown hK hP (v := τ 6 0) rfl dX1_second_1 ?_
  exact fin_i hx hb hr hlk rfl dX1_second_4
theorem kV_X1_second {R : Room} {s : State} {args : Array Value} {own : String} {idx : Nat} {c0 : Cond} (hts : ∀ w ∈ c0 :: W0, w.before args s = true) (hl : Cond.methodLink own idx yX1_second ∈ W0) (hR : rm_X1_second.frames + 1 ≤ R.frames ∧ 8 + (1 + 11) + rm_X1_second.locals ≤ R.locals) : CallW R s args own RX1 idx yX1_second cX1_second 1 (some .int) (Cond.code yX1_second cX1_second 1 (some .int) :: W0) rm_X1_second 0 0 0 := cwV 0 hts (gdV hl mi_yX1_second ms_yX1_second mini_X1 mc_yX1_second) rfl rfl rfl (by decide +kernel) hR

/-! X1.here -/
def f_X1_here (τ : Nat → Nat → Int32) : Int32 := (if xl τ ≤ xa τ then (-1) else τ 0 (xa τ))
abbrev rm_X1_here : Room := { frames := 0, cells := 0, slots := 0, locals := 0 }
set_option maxRecDepth 100000 in
theorem c_X1_here (l : Launch) (D : va_G) (cI : ClassId) (o : Nat) (a : Nat → Nat) (τ : Nat → Nat → Int32) (hokr : okR τ) :
    Met l yX1_here (Cond.code yX1_here cX1_here 1 (some .int) :: W0) rm_X1_here (va_Pc [.ref o] (txP D cI o a τ)) (vp_Si (fun r => r = f_X1_here τ)) 0 0 (fun _ => False) := by
  refine st_gen (cc := cX1_here) (maxL := 1) (ret := some .int) (own := RX1) (by decide) rfl (Nat.le_of_ble_eq_true rfl) ?_
  intro p e s m below meth c ls C hPre hl
  obtain ⟨hx, hb, hr, hml, hown, hts, hlk⟩ := C
  obtain ⟨hP, hK⟩ := hPre
  have hl : lv_has ls 1 [(0, .ref (o))] := hl
  refine lv_aload_n hx hb dX1_here_0 rfl (lv_at hl 0 rfl) ?_
  refine tx_g2 hx hb hts hown hK hP (v := τ 2 0) rfl dX1_here_1 ?_
  refine lv_aload_n hx hb dX1_here_4 rfl (lv_at hl 0 rfl) ?_
  refine tx_g1 hx hb hts hown hK hP (v := τ 1 0) rfl dX1_here_5 ?_
  have := (okR_a (τ := τ) (by with_reducible first | assumption | exact okR_4 (by with_reducible assumption) | exact okR_5 (by with_reducible assumption) | exact okR_6 (by with_reducible assumption) | exact okR_3 (by with_reducible assumption))).2
  have := (okX_l (τ := τ) (by with_reducible first | assumption | exact okR_x (by with_reducible first | assumption | exact okR_4 (by with_reducible assumption) | exact okR_5 (by with_reducible assumption) | exact okR_6 (by with_reducible assumption) | exact okR_3 (by with_reducible assumption)))).2
  have := (okX_l (τ := τ) (by with_reducible first | assumption | exact okR_x (by with_reducible assumption))).2
  refine lv_icmp_geN (xa τ) (xl τ) hx hb (okR_a (τ := τ) (by with_reducible first | assumption | exact okR_4 (by with_reducible assumption) | exact okR_5 (by with_reducible assumption) | exact okR_6 (by with_reducible assumption) | exact okR_3 (by with_reducible assumption))).1 (okX_l (τ := τ) (by with_reducible first | assumption | exact okR_x (by with_reducible assumption))).1 (by omega) (by omega) (tgt := 23) dX1_here_8 (by decide) (fun c_8 => ?_) (fun c_8 => ?_)
  · refine lv_iconst (v := (-1)) hx hb dX1_here_23 (by decide) ?_
    exact fin_i hx hb hr hlk (br_p c_8 rfl) dX1_here_24
  refine lv_aload_n hx hb dX1_here_11 rfl (lv_at hl 0 rfl) ?_
  refine tx_g0 hx hb hts hown hK hP dX1_here_12 ?_
  refine lv_aload_n hx hb dX1_here_15 rfl (lv_at hl 0 rfl) ?_
  refine tx_g2 hx hb hts hown hK hP (v := τ 2 0) rfl dX1_here_16 ?_
  have := (okR_a (τ := τ) (by with_reducible first | assumption | exact okR_4 (by with_reducible assumption) | exact okR_5 (by with_reducible assumption) | exact okR_6 (by with_reducible assumption) | exact okR_3 (by with_reducible assumption))).2
  have := (okX_l (τ := τ) (by with_reducible first | assumption | exact okR_x (by with_reducible first | assumption | exact okR_4 (by with_reducible assumption) | exact okR_5 (by with_reducible assumption) | exact okR_6 (by with_reducible assumption) | exact okR_3 (by with_reducible assumption)))).2
  refine tx_r0 hx hb hK hP (xa τ) (okR_a (τ := τ) (by with_reducible first | assumption | exact okR_4 (by with_reducible assumption) | exact okR_5 (by with_reducible assumption) | exact okR_6 (by with_reducible assumption) | exact okR_3 (by with_reducible assumption))).1 (by omega) (v := τ 0 (xa τ)) rfl dX1_here_19 ?_
  refine lv_goto (tgt := 24) hx hb dX1_here_20 (by decide) ?_
  exact fin_i hx hb hr hlk (br_n c_8 rfl) dX1_here_24
theorem kV_X1_here {R : Room} {s : State} {args : Array Value} {own : String} {idx : Nat} {c0 : Cond} (hts : ∀ w ∈ c0 :: W0, w.before args s = true) (hl : Cond.methodLink own idx yX1_here ∈ W0) (hR : rm_X1_here.frames + 1 ≤ R.frames ∧ 8 + (1 + 11) + rm_X1_here.locals ≤ R.locals) : CallW R s args own RX1 idx yX1_here cX1_here 1 (some .int) (Cond.code yX1_here cX1_here 1 (some .int) :: W0) rm_X1_here 0 0 0 := cwV 0 hts (gdV hl mi_yX1_here ms_yX1_here mini_X1 mc_yX1_here) rfl rfl rfl (by decide +kernel) hR

theorem hereX_v {τ : Nat → Nat → Int32} {v : Int32} (h : f_X1_here τ = v) (hv : v ≠ -1) : xa τ < xl τ := by
  unfold f_X1_here at h
  split at h
  · exact absurd h.symm hv
  · omega

/-! X1.skipBlanks -/
def g_X1_skipBlanks_0 (τ : Nat → Nat → Int32) : Nat → (Nat → Nat → Int32) → (Nat → Nat → Int32)
  | 0, ω => ω
  | fu + 1, ω => (if xl ω ≤ xa ω then ω else (if (ω 0 (xa ω)) = 32 then g_X1_skipBlanks_0 τ fu (shS ω 2 ((ω 2 0) + 1)) else ω))
def s_X1_skipBlanks (τ : Nat → Nat → Int32) : Nat → Nat → Int32 := (g_X1_skipBlanks_0 τ 101 τ)
abbrev rm_X1_skipBlanks : Room := { frames := 0, cells := 0, slots := 0, locals := 0 }
theorem skipBlanks_g {τ : Nat → Nat → Int32} : ∀ (fu : Nat) (ω : Nat → Nat → Int32), okR ω → okR (g_X1_skipBlanks_0 τ fu ω) ∧ (g_X1_skipBlanks_0 τ fu ω) 1 = ω 1 := by
  intro fu
  induction fu with
  | zero => intro ω h; exact ⟨h, rfl⟩
  | succ fu ih =>
    intro ω h
    rw [g_X1_skipBlanks_0]
    split
    · exact ⟨h, rfl⟩
    · split
      · have q := incX_ok h (by omega)
        have r := ih _ q.1
        exact ⟨r.1, r.2.trans rfl⟩
      · exact ⟨h, rfl⟩
set_option maxRecDepth 100000 in
theorem c_X1_skipBlanks (l : Launch) (D : va_G) (cI : ClassId) (o : Nat) (a : Nat → Nat) (τ : Nat → Nat → Int32) (hokr : okR τ) :
    Met l yX1_skipBlanks (Cond.code yX1_skipBlanks cX1_skipBlanks 1 (none) :: W0) rm_X1_skipBlanks (va_Pc [.ref o] (txM D cI o a τ)) (txV D cI o a (s_X1_skipBlanks τ)) 0 0 (txA o a) := by
  refine st_gen (cc := cX1_skipBlanks) (maxL := 1) (ret := none) (own := RX1) (by decide) rfl (Nat.le_of_ble_eq_true rfl) ?_
  intro p e s m below meth c ls C hPre hl
  obtain ⟨hx, hb, hr, hml, hown, hts, hlk⟩ := C
  obtain ⟨⟨hP, hK⟩, hD⟩ := hPre
  have hS : va_S (txA o a) s.heap s.heap [] := va_S.rf
  have hl : lv_has ls 1 [(0, .ref (o))] := hl
  have K_38 : ∀ (H : Heap) (locs : List Loc), va_P D vwCl (txW cI o a (g_X1_skipBlanks_0 τ 101 τ)) H → va_S (txA o a) s.heap H locs → ∀ ls, lv_has ls 1 [(0, .ref (o))] → W p l e rm_X1_skipBlanks s m (([.ref (o)] : List Value).toArray) below meth c H locs 0 0 (MQ below (txV D cI o a (s_X1_skipBlanks τ)) ([.ref (o)] : List Value).toArray s 0 0 (txA o a)) (F0 m 38 ls []) := by
    intro H locs hP hS ls hl
    exact tx_finV hx hb hr hlk hK hP hS rfl dX1_skipBlanks_38
  have L_0 : ∀ (fu : Nat) (ω : Nat → Nat → Int32), xl ω - xa ω < fu → okR ω → g_X1_skipBlanks_0 τ fu ω = g_X1_skipBlanks_0 τ 101 τ → ∀ (H : Heap) (locs : List Loc), va_P D vwCl (txW cI o a ω) H → va_S (txA o a) s.heap H locs → ∀ ls, lv_has ls 1 [(0, .ref (o))] → W p l e rm_X1_skipBlanks s m (([.ref (o)] : List Value).toArray) below meth c H locs 0 0 (MQ below (txV D cI o a (s_X1_skipBlanks τ)) ([.ref (o)] : List Value).toArray s 0 0 (txA o a)) (F0 m 0 ls []) := by
    intro fu
    induction fu with
    | zero => intro ω hm; exact absurd hm (Nat.not_lt_zero _)
    | succ fu ih =>
      intro ω hm hokr2 hg_0 H locs hP hS ls hl
      refine lv_aload_n hx hb dX1_skipBlanks_0 rfl (lv_at hl 0 rfl) ?_
      refine tx_g2 hx hb hts hown hK hP (v := ω 2 0) rfl dX1_skipBlanks_1 ?_
      refine lv_aload_n hx hb dX1_skipBlanks_4 rfl (lv_at hl 0 rfl) ?_
      refine tx_g1 hx hb hts hown hK hP (v := ω 1 0) rfl dX1_skipBlanks_5 ?_
      have := (okR_a (τ := ω) (by with_reducible first | assumption | exact okR_4 (by with_reducible assumption) | exact okR_5 (by with_reducible assumption) | exact okR_6 (by with_reducible assumption) | exact okR_3 (by with_reducible assumption))).2
      have := (okX_l (τ := ω) (by with_reducible first | assumption | exact okR_x (by with_reducible first | assumption | exact okR_4 (by with_reducible assumption) | exact okR_5 (by with_reducible assumption) | exact okR_6 (by with_reducible assumption) | exact okR_3 (by with_reducible assumption)))).2
      have := (okX_l (τ := ω) (by with_reducible first | assumption | exact okR_x (by with_reducible assumption))).2
      refine lv_icmp_geN (xa ω) (xl ω) hx hb (okR_a (τ := ω) (by with_reducible first | assumption | exact okR_4 (by with_reducible assumption) | exact okR_5 (by with_reducible assumption) | exact okR_6 (by with_reducible assumption) | exact okR_3 (by with_reducible assumption))).1 (okX_l (τ := ω) (by with_reducible first | assumption | exact okR_x (by with_reducible assumption))).1 (by omega) (by omega) (tgt := 38) dX1_skipBlanks_8 (by decide) (fun c_8 => ?_) (fun c_8 => ?_)
      · have ex : ω = g_X1_skipBlanks_0 τ 101 τ := ((br_p c_8 rfl) : ω = g_X1_skipBlanks_0 τ (fu + 1) ω).trans hg_0
        exact K_38 _ _ (by rw [← ex]; exact hP) hS ls (lv_sub hl [0] rfl)
      refine lv_aload_n hx hb dX1_skipBlanks_11 rfl (lv_at hl 0 rfl) ?_
      refine tx_g0 hx hb hts hown hK hP dX1_skipBlanks_12 ?_
      refine lv_aload_n hx hb dX1_skipBlanks_15 rfl (lv_at hl 0 rfl) ?_
      refine tx_g2 hx hb hts hown hK hP (v := ω 2 0) rfl dX1_skipBlanks_16 ?_
      have := (okR_a (τ := ω) (by with_reducible first | assumption | exact okR_4 (by with_reducible assumption) | exact okR_5 (by with_reducible assumption) | exact okR_6 (by with_reducible assumption) | exact okR_3 (by with_reducible assumption))).2
      have := (okX_l (τ := ω) (by with_reducible first | assumption | exact okR_x (by with_reducible first | assumption | exact okR_4 (by with_reducible assumption) | exact okR_5 (by with_reducible assumption) | exact okR_6 (by with_reducible assumption) | exact okR_3 (by with_reducible assumption)))).2
      refine tx_r0 hx hb hK hP (xa ω) (okR_a (τ := ω) (by with_reducible first | assumption | exact okR_4 (by with_reducible assumption) | exact okR_5 (by with_reducible assumption) | exact okR_6 (by with_reducible assumption) | exact okR_3 (by with_reducible assumption))).1 (by omega) (v := ω 0 (xa ω)) rfl dX1_skipBlanks_19 ?_
      refine lv_bipush (v := 32) hx hb dX1_skipBlanks_20 (by decide) ?_
      refine lv_icmp_ne (tgt := 38) hx hb dX1_skipBlanks_22 (by decide) (fun c_22 => ?_) (fun c_22 => ?_)
      · have ex : ω = g_X1_skipBlanks_0 τ 101 τ := ((br_n c_8 (br_n c_22 rfl)) : ω = g_X1_skipBlanks_0 τ (fu + 1) ω).trans hg_0
        exact K_38 _ _ (by rw [← ex]; exact hP) hS ls (lv_sub hl [0] rfl)
      refine lv_aload_n hx hb dX1_skipBlanks_25 rfl (lv_at hl 0 rfl) ?_
      refine lv_dup hx hb dX1_skipBlanks_26 rfl ?_
      refine tx_g2 hx hb hts hown hK hP (v := ω 2 0) rfl dX1_skipBlanks_27 ?_
      refine lv_iconst (v := 1) hx hb dX1_skipBlanks_30 (by decide) ?_
      refine lv_iadd hx hb dX1_skipBlanks_31 ?_
      refine tx_p2 hx hb hts hown hK hP hD hS dX1_skipBlanks_32 (fun H locs hP hS => ?_)
      refine lv_goto (tgt := 0) hx hb dX1_skipBlanks_35 (by decide) ?_
      have hti := (incX_ok hokr2 (by omega)).2
      exact ih (shS ω 2 ((ω 2 0) + 1)) (by omega) ((incX_ok hokr2 (by omega)).1) (((br_n c_8 (br_p c_22 rfl)) : g_X1_skipBlanks_0 τ fu (shS ω 2 ((ω 2 0) + 1)) = g_X1_skipBlanks_0 τ (fu + 1) ω).trans hg_0) _ _ hP hS ls (lv_sub hl [0] rfl)
  exact L_0 101 τ (by have := (okX_l (okR_x hokr)).2; omega) hokr rfl _ _ hP hS ls (lv_sub hl [0] rfl)
theorem kV_X1_skipBlanks {R : Room} {s : State} {args : Array Value} {own : String} {idx : Nat} {c0 : Cond} (hts : ∀ w ∈ c0 :: W0, w.before args s = true) (hl : Cond.methodLink own idx yX1_skipBlanks ∈ W0) (hR : rm_X1_skipBlanks.frames + 1 ≤ R.frames ∧ 8 + (1 + 11) + rm_X1_skipBlanks.locals ≤ R.locals) : CallW R s args own RX1 idx yX1_skipBlanks cX1_skipBlanks 1 (none) (Cond.code yX1_skipBlanks cX1_skipBlanks 1 (none) :: W0) rm_X1_skipBlanks 0 0 0 := cwV 0 hts (gdV hl mi_yX1_skipBlanks ms_yX1_skipBlanks mini_X1 mc_yX1_skipBlanks) rfl rfl rfl (by decide +kernel) hR

theorem skipBlanks_ok {τ : Nat → Nat → Int32} (h : okR τ) : okR (s_X1_skipBlanks τ) ∧ (s_X1_skipBlanks τ) 1 = τ 1 := skipBlanks_g 101 τ h

/-! X1.takesTwo -/
def f_X1_takesTwo (x : Int32) : Int32 := (if x = 0 then 1 else (if x = 1 then 1 else (if x = 2 then 1 else 0)))
abbrev rm_X1_takesTwo : Room := { frames := 0, cells := 0, slots := 0, locals := 0 }
set_option maxRecDepth 100000 in
theorem c_X1_takesTwo (l : Launch) (x : Int32) :
    Met l yX1_takesTwo (Cond.code yX1_takesTwo cX1_takesTwo 1 (some .boolean) :: W0) rm_X1_takesTwo (va_Pc [.int x] (fun _ => True)) (vp_Si (fun r => r = f_X1_takesTwo x)) 0 0 (fun _ => False) := by
  refine st_gen (cc := cX1_takesTwo) (maxL := 1) (ret := some .boolean) (own := RX1) (by decide) rfl (Nat.le_of_ble_eq_true rfl) ?_
  intro p e s m below meth c ls C hPre hl
  obtain ⟨hx, hb, hr, hml, hown, hts, hlk⟩ := C
  have hl : lv_has ls 1 [(0, .int (x))] := hl
  refine lv_iload_n hx hb dX1_takesTwo_0 rfl (lv_at hl 0 rfl) ?_
  refine lv_if_eq (tgt := 14) hx hb dX1_takesTwo_1 (by decide) (fun c_1 => ?_) (fun c_1 => ?_)
  · refine lv_iconst (v := 1) hx hb dX1_takesTwo_14 (by decide) ?_
    refine lv_goto (tgt := 19) hx hb dX1_takesTwo_15 (by decide) ?_
    exact fin_z hx hb hr hlk (Or.inr rfl) (br_p c_1 rfl) dX1_takesTwo_19
  refine lv_iload_n hx hb dX1_takesTwo_4 rfl (lv_at hl 0 rfl) ?_
  refine lv_iconst (v := 1) hx hb dX1_takesTwo_5 (by decide) ?_
  refine lv_icmp_eq (tgt := 14) hx hb dX1_takesTwo_6 (by decide) (fun c_6 => ?_) (fun c_6 => ?_)
  · refine lv_iconst (v := 1) hx hb dX1_takesTwo_14 (by decide) ?_
    refine lv_goto (tgt := 19) hx hb dX1_takesTwo_15 (by decide) ?_
    exact fin_z hx hb hr hlk (Or.inr rfl) (br_n c_1 (br_p c_6 rfl)) dX1_takesTwo_19
  refine lv_iload_n hx hb dX1_takesTwo_9 rfl (lv_at hl 0 rfl) ?_
  refine lv_iconst (v := 2) hx hb dX1_takesTwo_10 (by decide) ?_
  refine lv_icmp_ne (tgt := 18) hx hb dX1_takesTwo_11 (by decide) (fun c_11 => ?_) (fun c_11 => ?_)
  · refine lv_iconst (v := 0) hx hb dX1_takesTwo_18 (by decide) ?_
    exact fin_z hx hb hr hlk (Or.inl rfl) (br_n c_1 (br_n c_6 (br_n c_11 rfl))) dX1_takesTwo_19
  refine lv_iconst (v := 1) hx hb dX1_takesTwo_14 (by decide) ?_
  refine lv_goto (tgt := 19) hx hb dX1_takesTwo_15 (by decide) ?_
  exact fin_z hx hb hr hlk (Or.inr rfl) (br_n c_1 (br_n c_6 (br_p c_11 rfl))) dX1_takesTwo_19
theorem kS_X1_takesTwo {R : Room} {s : State} {args : Array Value} {own : String} {idx : Nat} {c0 : Cond} (hts : ∀ w ∈ c0 :: W0, w.before args s = true) (hl : Cond.methodLink own idx yX1_takesTwo ∈ W0) (hR : rm_X1_takesTwo.frames + 1 ≤ R.frames ∧ 8 + (1 + 11) + rm_X1_takesTwo.locals ≤ R.locals) : CallB R s args own idx yX1_takesTwo cX1_takesTwo 1 (some .boolean) (Cond.code yX1_takesTwo cX1_takesTwo 1 (some .boolean) :: W0) rm_X1_takesTwo 0 0 1 ∧ (Cond.static yX1_takesTwo).before args s = true := va_cwS 1 hts (gdS hl mst_yX1_takesTwo mini_X1 mc_yX1_takesTwo) rfl rfl rfl (by decide +kernel) hR

theorem z_X1_takesTwo {x : Int32} : f_X1_takesTwo x = 0 ∨ f_X1_takesTwo x = 1 := by
  unfold f_X1_takesTwo
  (repeat' split) <;> first | exact Or.inl rfl | exact Or.inr rfl

/-! X1.readNumber -/
def g_X1_readNumber_4 (τ : Nat → Nat → Int32) : Nat → (Nat) → (Int32) → (Nat → Nat → Int32) → Int32 × (Nat → Nat → Int32)
  | 0, q, v, ω => (0, ω)
  | fu + 1, q, v, ω => (if xl ω ≤ xa ω then (if q = 0 then ((-1), ω) else (v, ω)) else (if (ω 0 (xa ω)) < 48 then (if q = 0 then ((-1), ω) else (v, ω)) else (if 57 < (ω 0 (xa ω)) then (if q = 0 then ((-1), ω) else (v, ω)) else (if q = 5 then ((-1), ω) else g_X1_readNumber_4 τ fu (q + 1) (((v * 10) + (ω 0 (xa ω))) - 48) (shS ω 2 ((ω 2 0) + 1))))))
def m_X1_readNumber (τ : Nat → Nat → Int32) : Int32 × (Nat → Nat → Int32) := g_X1_readNumber_4 τ 101 0 0 τ
abbrev rm_X1_readNumber : Room := { frames := 0, cells := 0, slots := 0, locals := 0 }
theorem readNumber_g {τ : Nat → Nat → Int32} : ∀ (fu : Nat) (q : Nat) (v : Int32) (ω : Nat → Nat → Int32), okR ω → okR (g_X1_readNumber_4 τ fu q v ω).2 ∧ (g_X1_readNumber_4 τ fu q v ω).2 1 = ω 1 := by
  intro fu
  induction fu with
  | zero => intro q v ω h; exact ⟨h, rfl⟩
  | succ fu ih =>
    intro q v ω h
    rw [g_X1_readNumber_4]
    (repeat' split) <;> first
      | exact ⟨h, rfl⟩
      | (have k := incX_ok h (by omega)
         exact ⟨(ih _ _ _ k.1).1, ((ih _ _ _ k.1).2).trans rfl⟩)
set_option maxRecDepth 100000 in
theorem c_X1_readNumber (l : Launch) (D : va_G) (cI : ClassId) (o : Nat) (a : Nat → Nat) (τ : Nat → Nat → Int32) (hokr : okR τ) :
    Met l yX1_readNumber (Cond.code yX1_readNumber cX1_readNumber 3 (some .int) :: W0) rm_X1_readNumber (va_Pc [.ref o] (txM D cI o a τ)) (txQ D cI o a (m_X1_readNumber τ)) 0 0 (txA o a) := by
  refine st_gen (cc := cX1_readNumber) (maxL := 3) (ret := some .int) (own := RX1) (by decide) rfl (Nat.le_of_ble_eq_true rfl) ?_
  intro p e s m below meth c ls C hPre hl
  obtain ⟨hx, hb, hr, hml, hown, hts, hlk⟩ := C
  obtain ⟨⟨hP, hK⟩, hD⟩ := hPre
  have hS : va_S (txA o a) s.heap s.heap [] := va_S.rf
  have hl : lv_has ls 3 [(0, .ref (o))] := hl
  refine lv_iconst (v := 0) hx hb dX1_readNumber_0 (by decide) ?_
  refine lv_istore_n (lv' := [(1, .int (0)), (0, .ref (o))]) hx hb dX1_readNumber_1 rfl hl (by decide) rfl (fun ls hl => ?_)
  refine lv_iconst (v := 0) hx hb dX1_readNumber_2 (by decide) ?_
  refine lv_istore_n (lv' := [(2, .int (0)), (1, .int (0)), (0, .ref (o))]) hx hb dX1_readNumber_3 rfl hl (by decide) rfl (fun ls hl => ?_)
  have ho_4 : g_X1_readNumber_4 τ 101 0 0 τ = m_X1_readNumber τ := rfl
  have L_4 : ∀ (fu : Nat) (q : Nat) (v : Int32) (ω : Nat → Nat → Int32), xl ω - xa ω < fu → okR ω → q ≤ 5 → g_X1_readNumber_4 τ fu q v ω = g_X1_readNumber_4 τ 101 0 0 τ → ∀ (H : Heap) (locs : List Loc), va_P D vwCl (txW cI o a ω) H → va_S (txA o a) s.heap H locs → ∀ ls, lv_has ls 3 [(0, .ref (o)), (2, .int (nI q)), (1, .int (v))] → W p l e rm_X1_readNumber s m (([.ref (o)] : List Value).toArray) below meth c H locs 0 0 (MQ below (txQ D cI o a (m_X1_readNumber τ)) ([.ref (o)] : List Value).toArray s 0 0 (txA o a)) (F0 m 4 ls []) := by
    intro fu
    induction fu with
    | zero => intro q v ω hm; exact absurd hm (Nat.not_lt_zero _)
    | succ fu ih =>
      intro q v ω hm hokr2 hq6 hg_4 H locs hP hS ls hl
      refine lv_aload_n hx hb dX1_readNumber_4 rfl (lv_at hl 0 rfl) ?_
      refine tx_g2 hx hb hts hown hK hP (v := ω 2 0) rfl dX1_readNumber_5 ?_
      refine lv_aload_n hx hb dX1_readNumber_8 rfl (lv_at hl 0 rfl) ?_
      refine tx_g1 hx hb hts hown hK hP (v := ω 1 0) rfl dX1_readNumber_9 ?_
      have := (okR_a (τ := ω) (by with_reducible first | assumption | exact okR_4 (by with_reducible assumption) | exact okR_5 (by with_reducible assumption) | exact okR_6 (by with_reducible assumption) | exact okR_3 (by with_reducible assumption))).2
      have := (okX_l (τ := ω) (by with_reducible first | assumption | exact okR_x (by with_reducible first | assumption | exact okR_4 (by with_reducible assumption) | exact okR_5 (by with_reducible assumption) | exact okR_6 (by with_reducible assumption) | exact okR_3 (by with_reducible assumption)))).2
      have := (okX_l (τ := ω) (by with_reducible first | assumption | exact okR_x (by with_reducible assumption))).2
      refine lv_icmp_geN (xa ω) (xl ω) hx hb (okR_a (τ := ω) (by with_reducible first | assumption | exact okR_4 (by with_reducible assumption) | exact okR_5 (by with_reducible assumption) | exact okR_6 (by with_reducible assumption) | exact okR_3 (by with_reducible assumption))).1 (okX_l (τ := ω) (by with_reducible first | assumption | exact okR_x (by with_reducible assumption))).1 (by omega) (by omega) (tgt := 84) dX1_readNumber_12 (by decide) (fun c_12 => ?_) (fun c_12 => ?_)
      · refine lv_iload_n hx hb dX1_readNumber_84 rfl (lv_at hl 1 rfl) ?_
        refine lv_if_neN (q) hx hb rfl (by omega) (tgt := 92) dX1_readNumber_85 (by decide) (fun c_85 => ?_) (fun c_85 => ?_)
        · refine lv_iload_n hx hb dX1_readNumber_92 rfl (lv_at hl 2 rfl) ?_
          exact tx_finM hx hb hr hlk hK hP hS (((br_p c_12 (br_n c_85 rfl)) : _ = g_X1_readNumber_4 τ (fu + 1) q v ω).trans (hg_4.trans ho_4)) dX1_readNumber_93
        refine lv_iconst (v := (-1)) hx hb dX1_readNumber_88 (by decide) ?_
        refine lv_goto (tgt := 93) hx hb dX1_readNumber_89 (by decide) ?_
        exact tx_finM hx hb hr hlk hK hP hS (((br_p c_12 (br_p c_85 rfl)) : _ = g_X1_readNumber_4 τ (fu + 1) q v ω).trans (hg_4.trans ho_4)) dX1_readNumber_93
      refine lv_aload_n hx hb dX1_readNumber_15 rfl (lv_at hl 0 rfl) ?_
      refine tx_g0 hx hb hts hown hK hP dX1_readNumber_16 ?_
      refine lv_aload_n hx hb dX1_readNumber_19 rfl (lv_at hl 0 rfl) ?_
      refine tx_g2 hx hb hts hown hK hP (v := ω 2 0) rfl dX1_readNumber_20 ?_
      have := (okR_a (τ := ω) (by with_reducible first | assumption | exact okR_4 (by with_reducible assumption) | exact okR_5 (by with_reducible assumption) | exact okR_6 (by with_reducible assumption) | exact okR_3 (by with_reducible assumption))).2
      have := (okX_l (τ := ω) (by with_reducible first | assumption | exact okR_x (by with_reducible first | assumption | exact okR_4 (by with_reducible assumption) | exact okR_5 (by with_reducible assumption) | exact okR_6 (by with_reducible assumption) | exact okR_3 (by with_reducible assumption)))).2
      refine tx_r0 hx hb hK hP (xa ω) (okR_a (τ := ω) (by with_reducible first | assumption | exact okR_4 (by with_reducible assumption) | exact okR_5 (by with_reducible assumption) | exact okR_6 (by with_reducible assumption) | exact okR_3 (by with_reducible assumption))).1 (by omega) (v := ω 0 (xa ω)) rfl dX1_readNumber_23 ?_
      refine lv_bipush (v := 48) hx hb dX1_readNumber_24 (by decide) ?_
      refine lv_icmp_lt (tgt := 84) hx hb dX1_readNumber_26 (by decide) (fun c_26 => ?_) (fun c_26 => ?_)
      · refine lv_iload_n hx hb dX1_readNumber_84 rfl (lv_at hl 1 rfl) ?_
        refine lv_if_neN (q) hx hb rfl (by omega) (tgt := 92) dX1_readNumber_85 (by decide) (fun c_85 => ?_) (fun c_85 => ?_)
        · refine lv_iload_n hx hb dX1_readNumber_92 rfl (lv_at hl 2 rfl) ?_
          exact tx_finM hx hb hr hlk hK hP hS (((br_n c_12 (br_p c_26 (br_n c_85 rfl))) : _ = g_X1_readNumber_4 τ (fu + 1) q v ω).trans (hg_4.trans ho_4)) dX1_readNumber_93
        refine lv_iconst (v := (-1)) hx hb dX1_readNumber_88 (by decide) ?_
        refine lv_goto (tgt := 93) hx hb dX1_readNumber_89 (by decide) ?_
        exact tx_finM hx hb hr hlk hK hP hS (((br_n c_12 (br_p c_26 (br_p c_85 rfl))) : _ = g_X1_readNumber_4 τ (fu + 1) q v ω).trans (hg_4.trans ho_4)) dX1_readNumber_93
      refine lv_aload_n hx hb dX1_readNumber_29 rfl (lv_at hl 0 rfl) ?_
      refine tx_g0 hx hb hts hown hK hP dX1_readNumber_30 ?_
      refine lv_aload_n hx hb dX1_readNumber_33 rfl (lv_at hl 0 rfl) ?_
      refine tx_g2 hx hb hts hown hK hP (v := ω 2 0) rfl dX1_readNumber_34 ?_
      have := (okR_a (τ := ω) (by with_reducible first | assumption | exact okR_4 (by with_reducible assumption) | exact okR_5 (by with_reducible assumption) | exact okR_6 (by with_reducible assumption) | exact okR_3 (by with_reducible assumption))).2
      have := (okX_l (τ := ω) (by with_reducible first | assumption | exact okR_x (by with_reducible first | assumption | exact okR_4 (by with_reducible assumption) | exact okR_5 (by with_reducible assumption) | exact okR_6 (by with_reducible assumption) | exact okR_3 (by with_reducible assumption)))).2
      refine tx_r0 hx hb hK hP (xa ω) (okR_a (τ := ω) (by with_reducible first | assumption | exact okR_4 (by with_reducible assumption) | exact okR_5 (by with_reducible assumption) | exact okR_6 (by with_reducible assumption) | exact okR_3 (by with_reducible assumption))).1 (by omega) (v := ω 0 (xa ω)) rfl dX1_readNumber_37 ?_
      refine lv_bipush (v := 57) hx hb dX1_readNumber_38 (by decide) ?_
      refine lv_icmp_gt (tgt := 84) hx hb dX1_readNumber_40 (by decide) (fun c_40 => ?_) (fun c_40 => ?_)
      · refine lv_iload_n hx hb dX1_readNumber_84 rfl (lv_at hl 1 rfl) ?_
        refine lv_if_neN (q) hx hb rfl (by omega) (tgt := 92) dX1_readNumber_85 (by decide) (fun c_85 => ?_) (fun c_85 => ?_)
        · refine lv_iload_n hx hb dX1_readNumber_92 rfl (lv_at hl 2 rfl) ?_
          exact tx_finM hx hb hr hlk hK hP hS (((br_n c_12 (br_n c_26 (br_p c_40 (br_n c_85 rfl)))) : _ = g_X1_readNumber_4 τ (fu + 1) q v ω).trans (hg_4.trans ho_4)) dX1_readNumber_93
        refine lv_iconst (v := (-1)) hx hb dX1_readNumber_88 (by decide) ?_
        refine lv_goto (tgt := 93) hx hb dX1_readNumber_89 (by decide) ?_
        exact tx_finM hx hb hr hlk hK hP hS (((br_n c_12 (br_n c_26 (br_p c_40 (br_p c_85 rfl)))) : _ = g_X1_readNumber_4 τ (fu + 1) q v ω).trans (hg_4.trans ho_4)) dX1_readNumber_93
      refine lv_iload_n hx hb dX1_readNumber_43 rfl (lv_at hl 1 rfl) ?_
      refine lv_iconst (v := 5) hx hb dX1_readNumber_44 (by decide) ?_
      refine lv_icmp_neN (q) (5) hx hb rfl rfl (by omega) (by omega) (tgt := 50) dX1_readNumber_45 (by decide) (fun c_45 => ?_) (fun c_45 => ?_)
      · refine lv_iload_n hx hb dX1_readNumber_50 rfl (lv_at hl 2 rfl) ?_
        refine lv_bipush (v := 10) hx hb dX1_readNumber_51 (by decide) ?_
        refine lv_imul hx hb dX1_readNumber_53 ?_
        refine lv_aload_n hx hb dX1_readNumber_54 rfl (lv_at hl 0 rfl) ?_
        refine tx_g0 hx hb hts hown hK hP dX1_readNumber_55 ?_
        refine lv_aload_n hx hb dX1_readNumber_58 rfl (lv_at hl 0 rfl) ?_
        refine tx_g2 hx hb hts hown hK hP (v := ω 2 0) rfl dX1_readNumber_59 ?_
        have := (okR_a (τ := ω) (by with_reducible first | assumption | exact okR_4 (by with_reducible assumption) | exact okR_5 (by with_reducible assumption) | exact okR_6 (by with_reducible assumption) | exact okR_3 (by with_reducible assumption))).2
        have := (okX_l (τ := ω) (by with_reducible first | assumption | exact okR_x (by with_reducible first | assumption | exact okR_4 (by with_reducible assumption) | exact okR_5 (by with_reducible assumption) | exact okR_6 (by with_reducible assumption) | exact okR_3 (by with_reducible assumption)))).2
        refine tx_r0 hx hb hK hP (xa ω) (okR_a (τ := ω) (by with_reducible first | assumption | exact okR_4 (by with_reducible assumption) | exact okR_5 (by with_reducible assumption) | exact okR_6 (by with_reducible assumption) | exact okR_3 (by with_reducible assumption))).1 (by omega) (v := ω 0 (xa ω)) rfl dX1_readNumber_62 ?_
        refine lv_iadd hx hb dX1_readNumber_63 ?_
        refine lv_bipush (v := 48) hx hb dX1_readNumber_64 (by decide) ?_
        refine lv_isub hx hb dX1_readNumber_66 ?_
        refine lv_istore_n (lv' := [(1, .int (((v * 10) + (ω 0 (xa ω))) - 48)), (0, .ref (o)), (2, .int (nI q))]) hx hb dX1_readNumber_67 rfl hl (by decide) rfl (fun ls hl => ?_)
        refine lv_iinc (v := nI (q + 1)) (lv' := [(2, .int (nI (q + 1))), (1, .int (((v * 10) + (ω 0 (xa ω))) - 48)), (0, .ref (o))]) hx hb dX1_readNumber_68 hl (k := 2) rfl (nI_c1 _) (by decide) rfl (fun ls hl => ?_)
        refine lv_aload_n hx hb dX1_readNumber_71 rfl (lv_at hl 2 rfl) ?_
        refine lv_dup hx hb dX1_readNumber_72 rfl ?_
        refine tx_g2 hx hb hts hown hK hP (v := ω 2 0) rfl dX1_readNumber_73 ?_
        refine lv_iconst (v := 1) hx hb dX1_readNumber_76 (by decide) ?_
        refine lv_iadd hx hb dX1_readNumber_77 ?_
        refine tx_p2 hx hb hts hown hK hP hD hS dX1_readNumber_78 (fun H locs hP hS => ?_)
        refine lv_goto (tgt := 4) hx hb dX1_readNumber_81 (by decide) ?_
        have hti := (incX_ok hokr2 (by omega)).2
        exact ih (q + 1) (((v * 10) + (ω 0 (xa ω))) - 48) (shS ω 2 ((ω 2 0) + 1)) (by omega) ((incX_ok hokr2 (by omega)).1) (by omega) (((br_n c_12 (br_n c_26 (br_n c_40 (br_n c_45 rfl)))) : g_X1_readNumber_4 τ fu (q + 1) (((v * 10) + (ω 0 (xa ω))) - 48) (shS ω 2 ((ω 2 0) + 1)) = g_X1_readNumber_4 τ (fu + 1) q v ω).trans hg_4) _ _ hP hS ls (lv_sub hl [2, 0, 1] rfl)
      refine lv_iconst (v := (-1)) hx hb dX1_readNumber_48 (by decide) ?_
      exact tx_finM hx hb hr hlk hK hP hS (((br_n c_12 (br_n c_26 (br_n c_40 (br_p c_45 rfl)))) : _ = g_X1_readNumber_4 τ (fu + 1) q v ω).trans (hg_4.trans ho_4)) dX1_readNumber_49
  exact L_4 101 0 0 τ (by have := (okX_l (okR_x hokr)).2; omega) hokr (by omega) rfl _ _ hP hS ls (lv_sub hl [2, 0, 1] rfl)
theorem kV_X1_readNumber {R : Room} {s : State} {args : Array Value} {own : String} {idx : Nat} {c0 : Cond} (hts : ∀ w ∈ c0 :: W0, w.before args s = true) (hl : Cond.methodLink own idx yX1_readNumber ∈ W0) (hR : rm_X1_readNumber.frames + 1 ≤ R.frames ∧ 8 + (3 + 11) + rm_X1_readNumber.locals ≤ R.locals) : CallW R s args own RX1 idx yX1_readNumber cX1_readNumber 3 (some .int) (Cond.code yX1_readNumber cX1_readNumber 3 (some .int) :: W0) rm_X1_readNumber 0 0 0 := cwV 0 hts (gdV hl mi_yX1_readNumber ms_yX1_readNumber mini_X1 mc_yX1_readNumber) rfl rfl rfl (by decide +kernel) hR

theorem readNumber_ok {τ : Nat → Nat → Int32} (h : okR τ) : okR (m_X1_readNumber τ).2 ∧ (m_X1_readNumber τ).2 1 = τ 1 := readNumber_g 101 0 0 τ h

/-! X1.readEndOfOrder -/
def m_X1_readEndOfOrder (τ : Nat → Nat → Int32) : Int32 × (Nat → Nat → Int32) := (if (f_X1_here τ) = 59 then ((-1), (shS (shS τ 3 1) 2 ((τ 2 0) + 1))) else (if (f_X1_here (shS τ 3 0)) = (-1) then ((-1), (shS τ 3 0)) else (τ 2 0, (shS τ 3 0))))
abbrev rm_X1_readEndOfOrder : Room := { frames := 1, cells := 0, slots := 0, locals := 20 }
set_option maxRecDepth 100000 in
theorem c_X1_readEndOfOrder (l : Launch) (D : va_G) (cI : ClassId) (o : Nat) (a : Nat → Nat) (τ : Nat → Nat → Int32) (hokr : okR τ) :
    Met l yX1_readEndOfOrder (Cond.code yX1_readEndOfOrder cX1_readEndOfOrder 1 (some .int) :: W0) rm_X1_readEndOfOrder (va_Pc [.ref o] (txM D cI o a τ)) (txQ D cI o a (m_X1_readEndOfOrder τ)) 0 0 (txA o a) := by
  refine st_gen (cc := cX1_readEndOfOrder) (maxL := 1) (ret := some .int) (own := RX1) (by decide) rfl (Nat.le_of_ble_eq_true rfl) ?_
  intro p e s m below meth c ls C hPre hl
  obtain ⟨hx, hb, hr, hml, hown, hts, hlk⟩ := C
  obtain ⟨⟨hP, hK⟩, hD⟩ := hPre
  have hS : va_S (txA o a) s.heap s.heap [] := va_S.rf
  have hl : lv_has ls 1 [(0, .ref (o))] := hl
  refine lv_aload_n hx hb dX1_readEndOfOrder_0 rfl (lv_at hl 0 rfl) ?_
  refine lv_aload_n hx hb dX1_readEndOfOrder_1 rfl (lv_at hl 0 rfl) ?_
  refine tx_call (rest := [.ref (o)]) hx hb hml hown hts hK hP (c_X1_here l D cI o a τ (by with_reducible first | assumption | exact okR_4 (by with_reducible assumption) | exact okR_5 (by with_reducible assumption) | exact okR_6 (by with_reducible assumption) | exact okR_3 (by with_reducible assumption))) (kV_X1_here hts ml_X1_55 ⟨(Nat.le_of_ble_eq_true rfl), (Nat.le_of_ble_eq_true rfl)⟩) rfl hl.1 rfl (Nat.le_of_ble_eq_true rfl) dX1_readEndOfOrder_2 (Nat.zero_le _) (Nat.zero_le _) ?_
  refine lv_bipush (v := 59) hx hb dX1_readEndOfOrder_5 (by decide) ?_
  refine lv_icmp_ne (tgt := 14) hx hb dX1_readEndOfOrder_7 (by decide) (fun c_7 => ?_) (fun c_7 => ?_)
  · refine lv_iconst (v := 0) hx hb dX1_readEndOfOrder_14 (by decide) ?_
    refine tx_p3 hx hb hts hown hK hP hD hS (Or.inl rfl) dX1_readEndOfOrder_15 (fun H locs hP hS => ?_)
    refine lv_aload_n hx hb dX1_readEndOfOrder_18 rfl (lv_at hl 0 rfl) ?_
    refine tx_g3 hx hb hts hown hK hP (v := 0) rfl dX1_readEndOfOrder_19 ?_
    refine lv_if_eq (tgt := 37) hx hb dX1_readEndOfOrder_22 (by decide) (fun _ => ?_) (fun q => absurd rfl q)
    have hok3 : okR (shS τ 3 0) := okR_3 hokr
    refine lv_aload_n hx hb dX1_readEndOfOrder_37 rfl (lv_at hl 0 rfl) ?_
    refine tx_call (rest := []) hx hb hml hown hts hK hP (c_X1_here l D cI o a (shS τ 3 0) (by with_reducible first | assumption | exact okR_4 (by with_reducible assumption) | exact okR_5 (by with_reducible assumption) | exact okR_6 (by with_reducible assumption) | exact okR_3 (by with_reducible assumption))) (kV_X1_here hts ml_X1_55 ⟨(Nat.le_of_ble_eq_true rfl), (Nat.le_of_ble_eq_true rfl)⟩) rfl hl.1 rfl (Nat.le_of_ble_eq_true rfl) dX1_readEndOfOrder_38 (Nat.zero_le _) (Nat.zero_le _) ?_
    refine lv_iconst (v := (-1)) hx hb dX1_readEndOfOrder_41 (by decide) ?_
    refine lv_icmp_ne (tgt := 49) hx hb dX1_readEndOfOrder_42 (by decide) (fun c_42 => ?_) (fun c_42 => ?_)
    · refine lv_aload_n hx hb dX1_readEndOfOrder_49 rfl (lv_at hl 0 rfl) ?_
      refine tx_g2 hx hb hts hown hK hP (v := τ 2 0) rfl dX1_readEndOfOrder_50 ?_
      exact tx_finM hx hb hr hlk hK hP hS (br_n c_7 (br_n c_42 rfl)) dX1_readEndOfOrder_53
    refine lv_iconst (v := (-1)) hx hb dX1_readEndOfOrder_45 (by decide) ?_
    refine lv_goto (tgt := 53) hx hb dX1_readEndOfOrder_46 (by decide) ?_
    exact tx_finM hx hb hr hlk hK hP hS (br_n c_7 (br_p c_42 rfl)) dX1_readEndOfOrder_53
  refine lv_iconst (v := 1) hx hb dX1_readEndOfOrder_10 (by decide) ?_
  refine lv_goto (tgt := 15) hx hb dX1_readEndOfOrder_11 (by decide) ?_
  refine tx_p3 hx hb hts hown hK hP hD hS (Or.inr rfl) dX1_readEndOfOrder_15 (fun H locs hP hS => ?_)
  refine lv_aload_n hx hb dX1_readEndOfOrder_18 rfl (lv_at hl 0 rfl) ?_
  refine tx_g3 hx hb hts hown hK hP (v := 1) rfl dX1_readEndOfOrder_19 ?_
  refine lv_if_eq (tgt := 37) hx hb dX1_readEndOfOrder_22 (by decide) (fun q => absurd q (by decide)) (fun _ => ?_)
  have hlh := hereX_v (τ := τ) c_7 (by decide)
  have hok3 : okR (shS τ 3 1) := okR_3 hokr
  refine lv_aload_n hx hb dX1_readEndOfOrder_25 rfl (lv_at hl 0 rfl) ?_
  refine lv_dup hx hb dX1_readEndOfOrder_26 rfl ?_
  refine tx_g2 hx hb hts hown hK hP (v := τ 2 0) rfl dX1_readEndOfOrder_27 ?_
  refine lv_iconst (v := 1) hx hb dX1_readEndOfOrder_30 (by decide) ?_
  refine lv_iadd hx hb dX1_readEndOfOrder_31 ?_
  refine tx_p2 hx hb hts hown hK hP hD hS dX1_readEndOfOrder_32 (fun H locs hP hS => ?_)
  refine lv_iconst (v := (-1)) hx hb dX1_readEndOfOrder_35 (by decide) ?_
  exact tx_finM hx hb hr hlk hK hP hS (br_p c_7 rfl) dX1_readEndOfOrder_36
theorem kV_X1_readEndOfOrder {R : Room} {s : State} {args : Array Value} {own : String} {idx : Nat} {c0 : Cond} (hts : ∀ w ∈ c0 :: W0, w.before args s = true) (hl : Cond.methodLink own idx yX1_readEndOfOrder ∈ W0) (hR : rm_X1_readEndOfOrder.frames + 1 ≤ R.frames ∧ 8 + (1 + 11) + rm_X1_readEndOfOrder.locals ≤ R.locals) : CallW R s args own RX1 idx yX1_readEndOfOrder cX1_readEndOfOrder 1 (some .int) (Cond.code yX1_readEndOfOrder cX1_readEndOfOrder 1 (some .int) :: W0) rm_X1_readEndOfOrder 0 0 0 := cwV 0 hts (gdV hl mi_yX1_readEndOfOrder ms_yX1_readEndOfOrder mini_X1 mc_yX1_readEndOfOrder) rfl rfl rfl (by decide +kernel) hR

theorem readEndOfOrder_ok {τ : Nat → Nat → Int32} (h : okR τ) : okR (m_X1_readEndOfOrder τ).2 ∧ (m_X1_readEndOfOrder τ).2 1 = τ 1 := by
  unfold m_X1_readEndOfOrder
  split
  · rename_i q
    have hl := hereX_v (τ := τ) q (by decide)
    have k := incX_ok (okR_3 (v := 1) h) hl
    exact ⟨k.1, rfl⟩
  · split <;> exact ⟨okR_3 h, rfl⟩

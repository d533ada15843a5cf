/-! ===== the model's text ===== -/
def tl (μ : Nat → Nat → Int32) : Nat := tn (μ 5 0)
def ta (μ : Nat → Nat → Int32) : Nat := tn (μ 6 0)
def okT (b : Nat) (μ : Nat → Nat → Int32) : Prop := (μ 5 0 = nI (tl μ) ∧ tl μ ≤ 100) ∧ (μ 6 0 = nI (ta μ) ∧ ta μ ≤ b) ∧ 100 ≤ b ∧ b ≤ 1000
theorem okT_l {b : Nat} {μ : Nat → Nat → Int32} (h : okT b μ) : μ 5 0 = nI (tl μ) ∧ tl μ ≤ 100 := h.1
theorem okT_a {b : Nat} {μ : Nat → Nat → Int32} (h : okT b μ) : μ 6 0 = nI (ta μ) ∧ (ta μ ≤ b ∧ 100 ≤ b ∧ b ≤ 1000) := ⟨h.2.1.1, h.2.1.2, h.2.2⟩
theorem okT_mk {b b' : Nat} {μ μ' : Nat → Nat → Int32} (h : okT b μ) (e5 : μ' 5 0 = μ 5 0) (n : Nat) (e6 : μ' 6 0 = nI n) (hn : n ≤ b') (hb : 100 ≤ b' ∧ b' ≤ 1000) : okT b' μ' ∧ ta μ' = n ∧ tl μ' = tl μ := by
  have e : ta μ' = n := by unfold ta; rw [e6]; exact tn_nI (by omega)
  have e2 : tl μ' = tl μ := congrArg tn e5
  exact ⟨⟨⟨by rw [e2, e5]; exact h.1.1, by rw [e2]; exact h.1.2⟩, ⟨by rw [e]; exact e6, by rw [e]; exact hn⟩, hb⟩, e, e2⟩
theorem inc_ok {b : Nat} {ω : Nat → Nat → Int32} (h : okT b ω) (hlt : ta ω < tl ω) : okT b (shS ω 6 (ω 6 0 + 1)) ∧ ta (shS ω 6 (ω 6 0 + 1)) = ta ω + 1 := by
  have h1 := okT_l h
  have h2 := okT_a h
  have r := okT_mk (b' := b) h (μ' := shS ω 6 (ω 6 0 + 1)) rfl (ta ω + 1) (by rw [shS_eq, h2.1, nI_1]) (by omega) h2.2.2
  exact ⟨r.1, r.2.1⟩
theorem okM_eq {μ μ' : Nat → Nat → Int32} (h : okM μ) (e0 : μ' 0 = μ 0) (e1 : μ' 1 = μ 1) : okM μ' := by
  unfold okM mT mN mC mS mt mr
  rw [e0, e1]
  exact h

/-! X4.type -/
def m_X4_type (μ : Nat → Nat → Int32) (x : Int32) : Int32 × (Nat → Nat → Int32) := (if (f_X4_in x 0 255) = 0 then ((-3), μ) else (if (μ 5 0) = 100 then ((-5), μ) else ((μ 5 0) + 1, (shS (shU μ 4 (tl μ) x) 5 ((μ 5 0) + 1)))))
abbrev rm_X4_type : Room := { frames := 1, cells := 0, slots := 0, locals := 22 }
set_option maxRecDepth 100000 in
theorem c_X4_type (l : Launch) (D : va_G) (cI : ClassId) (o : Nat) (a : Nat → Nat) (μ : Nat → Nat → Int32) (hh : Int64) (x : Int32) (bb : Nat) (hot : okT bb μ) :
    Met l yX4_type (Cond.code yX4_type cX4_type 2 (some .int) :: W0) rm_X4_type (va_Pc [.ref o, .int x] (moM D cI o a μ hh)) (moQ D cI o a hh (m_X4_type μ x)) 0 0 (moA o a) := by
  refine st_gen (cc := cX4_type) (maxL := 2) (ret := some .int) (own := RX4) (by decide) rfl (Nat.le_of_ble_eq_true rfl) ?_
  intro p e s m below meth c ls C hPre hl
  obtain ⟨hx, hb, hr, hml, hown, hts, hlk⟩ := C
  obtain ⟨⟨hP, hK⟩, hD⟩ := hPre
  have hS : va_S (moA o a) s.heap s.heap [] := va_S.rf
  have hl : lv_has ls 2 [(0, .ref (o)), (1, .int (x))] := hl
  have hb1 := (okT_l hot).2
  have hb2 := (okT_a hot).2
  refine lv_iload_n hx hb dX4_type_0 rfl (lv_at hl 1 rfl) ?_
  refine lv_iconst (v := 0) hx hb dX4_type_1 (by decide) ?_
  refine lv_sipush (v := 255) hx hb dX4_type_2 (by decide) ?_
  refine cl_S (rest := []) hx hb hml hown hts (c_X4_in l x 0 255) (kS_X4_in hts ml_X4_30 ⟨(Nat.le_of_ble_eq_true rfl), (Nat.le_of_ble_eq_true rfl)⟩) rfl hl.1 rfl (Nat.le_of_ble_eq_true rfl) dX4_type_5 (Nat.zero_le _) (Nat.zero_le _) ?_
  refine lv_if_ne (tgt := 14) hx hb dX4_type_8 (by decide) (fun c_8 => ?_) (fun c_8 => ?_)
  · have v_8 := inN 255 c_8 (by decide) rfl (by decide)
    have vb_8 := v_8.1
    refine lv_aload_n hx hb dX4_type_14 rfl (lv_at hl 0 rfl) ?_
    refine mo_g5 hx hb hts hown hK hP (v := μ 5 0) rfl dX4_type_15 ?_
    refine lv_bipush (v := 100) hx hb dX4_type_18 (by decide) ?_
    refine lv_icmp_ne (tgt := 26) hx hb dX4_type_20 (by decide) (fun c_20 => ?_) (fun c_20 => ?_)
    · have hl2 : tl μ < 100 := by have : ¬ tl μ = 100 := fun q => c_20 (by rw [(okT_l hot).1, q]; rfl); omega
      refine lv_aload_n hx hb dX4_type_26 rfl (lv_at hl 0 rfl) ?_
      refine mo_g4 hx hb hts hown hK hP dX4_type_27 ?_
      refine lv_aload_n hx hb dX4_type_30 rfl (lv_at hl 0 rfl) ?_
      refine mo_g5 hx hb hts hown hK hP (v := μ 5 0) rfl dX4_type_31 ?_
      refine lv_iload_n hx hb dX4_type_34 rfl (lv_at hl 1 rfl) ?_
      have := (okT_l (μ := μ) (by with_reducible assumption)).2
      refine mo_w4 hx hb hK hP hD hS (tl μ) (okT_l (μ := μ) (by with_reducible assumption)).1 (by omega) dX4_type_35 (fun H locs hP hS => ?_)
      refine lv_aload_n hx hb dX4_type_36 rfl (lv_at hl 0 rfl) ?_
      refine lv_dup hx hb dX4_type_37 rfl ?_
      refine mo_g5 hx hb hts hown hK hP (v := μ 5 0) rfl dX4_type_38 ?_
      refine lv_iconst (v := 1) hx hb dX4_type_41 (by decide) ?_
      refine lv_iadd hx hb dX4_type_42 ?_
      refine mo_p5 hx hb hts hown hK hP hD hS dX4_type_43 (fun H locs hP hS => ?_)
      refine lv_aload_n hx hb dX4_type_46 rfl (lv_at hl 0 rfl) ?_
      refine mo_g5 hx hb hts hown hK hP (v := (μ 5 0) + 1) rfl dX4_type_47 ?_
      exact mo_finM hx hb hr hlk hK hP hS (br_n c_8 (br_n c_20 rfl)) dX4_type_50
    refine lv_bipush (v := (-5)) hx hb dX4_type_23 (by decide) ?_
    exact mo_finM hx hb hr hlk hK hP hS (br_n c_8 (br_p c_20 rfl)) dX4_type_25
  refine lv_bipush (v := (-3)) hx hb dX4_type_11 (by decide) ?_
  exact mo_finM hx hb hr hlk hK hP hS (br_p c_8 rfl) dX4_type_13
theorem kV_X4_type {R : Room} {s : State} {args : Array Value} {own : String} {idx : Nat} {c0 : Cond} (hts : ∀ w ∈ c0 :: W0, w.before args s = true) (hl : Cond.methodLink own idx yX4_type ∈ W0) (hR : rm_X4_type.frames + 1 ≤ R.frames ∧ 8 + (2 + 11) + rm_X4_type.locals ≤ R.locals) : CallW R s args own RX4 idx yX4_type cX4_type 2 (some .int) (Cond.code yX4_type cX4_type 2 (some .int) :: W0) rm_X4_type 0 0 1 := cwV 1 hts (gdV hl mi_yX4_type ms_yX4_type mini_X4 mc_yX4_type) rfl rfl rfl (by decide +kernel) hR

/-! X4.clearText -/
def m_X4_clearText (μ : Nat → Nat → Int32) : Int32 × (Nat → Nat → Int32) := (μ 5 0, (shS μ 5 0))
abbrev rm_X4_clearText : Room := { frames := 0, cells := 0, slots := 0, locals := 0 }
set_option maxRecDepth 100000 in
theorem c_X4_clearText (l : Launch) (D : va_G) (cI : ClassId) (o : Nat) (a : Nat → Nat) (μ : Nat → Nat → Int32) (hh : Int64) :
    Met l yX4_clearText (Cond.code yX4_clearText cX4_clearText 2 (some .int) :: W0) rm_X4_clearText (va_Pc [.ref o] (moM D cI o a μ hh)) (moQ D cI o a hh (m_X4_clearText μ)) 0 0 (moA o a) := by
  refine st_gen (cc := cX4_clearText) (maxL := 2) (ret := some .int) (own := RX4) (by decide) rfl (Nat.le_of_ble_eq_true rfl) ?_
  intro p e s m below meth c ls C hPre hl
  obtain ⟨hx, hb, hr, hml, hown, hts, hlk⟩ := C
  obtain ⟨⟨hP, hK⟩, hD⟩ := hPre
  have hS : va_S (moA o a) s.heap s.heap [] := va_S.rf
  have hl : lv_has ls 2 [(0, .ref (o))] := hl
  refine lv_aload_n hx hb dX4_clearText_0 rfl (lv_at hl 0 rfl) ?_
  refine mo_g5 hx hb hts hown hK hP (v := μ 5 0) rfl dX4_clearText_1 ?_
  refine lv_istore_n (lv' := [(1, .int (μ 5 0)), (0, .ref (o))]) hx hb dX4_clearText_4 rfl hl (by decide) rfl (fun ls hl => ?_)
  refine lv_aload_n hx hb dX4_clearText_5 rfl (lv_at hl 1 rfl) ?_
  refine lv_iconst (v := 0) hx hb dX4_clearText_6 (by decide) ?_
  refine mo_p5 hx hb hts hown hK hP hD hS dX4_clearText_7 (fun H locs hP hS => ?_)
  refine lv_iload_n hx hb dX4_clearText_10 rfl (lv_at hl 0 rfl) ?_
  exact mo_finM hx hb hr hlk hK hP hS rfl dX4_clearText_11
theorem kV_X4_clearText {R : Room} {s : State} {args : Array Value} {own : String} {idx : Nat} {c0 : Cond} (hts : ∀ w ∈ c0 :: W0, w.before args s = true) (hl : Cond.methodLink own idx yX4_clearText ∈ W0) (hR : rm_X4_clearText.frames + 1 ≤ R.frames ∧ 8 + (2 + 11) + rm_X4_clearText.locals ≤ R.locals) : CallW R s args own RX4 idx yX4_clearText cX4_clearText 2 (some .int) (Cond.code yX4_clearText cX4_clearText 2 (some .int) :: W0) rm_X4_clearText 0 0 0 := cwV 0 hts (gdV hl mi_yX4_clearText ms_yX4_clearText mini_X4 mc_yX4_clearText) rfl rfl rfl (by decide +kernel) hR

/-! X4.here -/
def g_X4_here_0 (μ : Nat → Nat → Int32) : Nat → (Nat → Nat → Int32) → (Nat → Nat → Int32)
  | 0, ω => ω
  | fu + 1, ω => (if tl ω ≤ ta ω then ω else (if (ω 4 (ta ω)) = 32 then g_X4_here_0 μ fu (shS ω 6 ((ω 6 0) + 1)) else ω))
def m_X4_here (μ : Nat → Nat → Int32) : Int32 × (Nat → Nat → Int32) := (if tl (g_X4_here_0 μ 101 μ) ≤ ta (g_X4_here_0 μ 101 μ) then ((-1), (g_X4_here_0 μ 101 μ)) else ((g_X4_here_0 μ 101 μ) 4 (ta (g_X4_here_0 μ 101 μ)), (g_X4_here_0 μ 101 μ)))
abbrev rm_X4_here : Room := { frames := 0, cells := 0, slots := 0, locals := 0 }
theorem here_g {b : Nat} {μ : Nat → Nat → Int32} : ∀ (fu : Nat) (ω : Nat → Nat → Int32), okT b ω → okT b (g_X4_here_0 μ fu ω) ∧ tl (g_X4_here_0 μ fu ω) = tl ω ∧ ta ω ≤ ta (g_X4_here_0 μ fu ω) := by
  intro fu
  induction fu with
  | zero => intro ω h; exact ⟨h, rfl, Nat.le_refl _⟩
  | succ fu ih =>
    intro ω h
    rw [g_X4_here_0]
    split
    · exact ⟨h, rfl, Nat.le_refl _⟩
    · split
      · have q := inc_ok h (by omega)
        have r := ih _ q.1
        exact ⟨r.1, r.2.1, by omega⟩
      · exact ⟨h, rfl, Nat.le_refl _⟩
theorem here_gf {μ : Nat → Nat → Int32} {f : Nat} (hf : f ≠ 6) : ∀ (fu : Nat) (ω : Nat → Nat → Int32), g_X4_here_0 μ fu ω f = ω f := by
  intro fu
  induction fu with
  | zero => intro ω; rfl
  | succ fu ih =>
    intro ω
    rw [g_X4_here_0]
    (repeat' split) <;> first | rfl | (rw [ih, shS_f hf])
set_option maxRecDepth 100000 in
theorem c_X4_here (l : Launch) (D : va_G) (cI : ClassId) (o : Nat) (a : Nat → Nat) (μ : Nat → Nat → Int32) (hh : Int64) (bb : Nat) (hot : okT bb μ) :
    Met l yX4_here (Cond.code yX4_here cX4_here 1 (some .int) :: W0) rm_X4_here (va_Pc [.ref o] (moM D cI o a μ hh)) (moQ D cI o a hh (m_X4_here μ)) 0 0 (moA o a) := by
  refine st_gen (cc := cX4_here) (maxL := 1) (ret := some .int) (own := RX4) (by decide) rfl (Nat.le_of_ble_eq_true rfl) ?_
  intro p e s m below meth c ls C hPre hl
  obtain ⟨hx, hb, hr, hml, hown, hts, hlk⟩ := C
  obtain ⟨⟨hP, hK⟩, hD⟩ := hPre
  have hS : va_S (moA o a) s.heap s.heap [] := va_S.rf
  have hl : lv_has ls 1 [(0, .ref (o))] := hl
  have hb1 := (okT_l hot).2
  have hb2 := (okT_a hot).2
  have K_38 : ∀ (H : Heap) (locs : List Loc), va_P D vwCl (moW cI o a (g_X4_here_0 μ 101 μ) hh) H → va_S (moA o a) s.heap H locs → ∀ ls, lv_has ls 1 [(0, .ref (o))] → W p l e rm_X4_here s m (([.ref (o)] : List Value).toArray) below meth c H locs 0 0 (MQ below (moQ D cI o a hh (m_X4_here μ)) ([.ref (o)] : List Value).toArray s 0 0 (moA o a)) (F0 m 38 ls []) := by
    intro H locs hP hS ls hl
    have hot3 := (here_g (μ := μ) 101 μ hot).1
    refine lv_aload_n hx hb dX4_here_38 rfl (lv_at hl 0 rfl) ?_
    refine mo_g6 hx hb hts hown hK hP (v := (g_X4_here_0 μ 101 μ) 6 0) rfl dX4_here_39 ?_
    refine lv_aload_n hx hb dX4_here_42 rfl (lv_at hl 0 rfl) ?_
    refine mo_g5 hx hb hts hown hK hP (v := (g_X4_here_0 μ 101 μ) 5 0) rfl dX4_here_43 ?_
    have := (okT_a (μ := (g_X4_here_0 μ 101 μ)) (by with_reducible assumption)).2
    have := (okT_l (μ := (g_X4_here_0 μ 101 μ)) (by with_reducible assumption)).2
    refine lv_icmp_geN (ta (g_X4_here_0 μ 101 μ)) (tl (g_X4_here_0 μ 101 μ)) hx hb (okT_a (μ := (g_X4_here_0 μ 101 μ)) (by with_reducible assumption)).1 (okT_l (μ := (g_X4_here_0 μ 101 μ)) (by with_reducible assumption)).1 (by omega) (by omega) (tgt := 61) dX4_here_46 (by decide) (fun c_46 => ?_) (fun c_46 => ?_)
    · refine lv_iconst (v := (-1)) hx hb dX4_here_61 (by decide) ?_
      exact mo_finM hx hb hr hlk hK hP hS (br_p c_46 rfl) dX4_here_62
    refine lv_aload_n hx hb dX4_here_49 rfl (lv_at hl 0 rfl) ?_
    refine mo_g4 hx hb hts hown hK hP dX4_here_50 ?_
    refine lv_aload_n hx hb dX4_here_53 rfl (lv_at hl 0 rfl) ?_
    refine mo_g6 hx hb hts hown hK hP (v := (g_X4_here_0 μ 101 μ) 6 0) rfl dX4_here_54 ?_
    have := (okT_a (μ := (g_X4_here_0 μ 101 μ)) (by with_reducible assumption)).2
    refine mo_r4 hx hb hK hP (ta (g_X4_here_0 μ 101 μ)) (okT_a (μ := (g_X4_here_0 μ 101 μ)) (by with_reducible assumption)).1 (by omega) (v := (g_X4_here_0 μ 101 μ) 4 (ta (g_X4_here_0 μ 101 μ))) rfl dX4_here_57 ?_
    refine lv_goto (tgt := 62) hx hb dX4_here_58 (by decide) ?_
    exact mo_finM hx hb hr hlk hK hP hS (br_n c_46 rfl) dX4_here_62
  have L_0 : ∀ (fu : Nat) (ω : Nat → Nat → Int32), tl μ - ta ω < fu → okT bb ω → tl ω = tl μ → g_X4_here_0 μ fu ω = g_X4_here_0 μ 101 μ → ∀ (H : Heap) (locs : List Loc), va_P D vwCl (moW cI o a ω hh) H → va_S (moA o a) s.heap H locs → ∀ ls, lv_has ls 1 [(0, .ref (o))] → W p l e rm_X4_here s m (([.ref (o)] : List Value).toArray) below meth c H locs 0 0 (MQ below (moQ D cI o a hh (m_X4_here μ)) ([.ref (o)] : List Value).toArray s 0 0 (moA o a)) (F0 m 0 ls []) := by
    intro fu
    induction fu with
    | zero => intro ω hm; exact absurd hm (Nat.not_lt_zero _)
    | succ fu ih =>
      intro ω hm hot2 hl2 hg_0 H locs hP hS ls hl
      refine lv_aload_n hx hb dX4_here_0 rfl (lv_at hl 0 rfl) ?_
      refine mo_g6 hx hb hts hown hK hP (v := ω 6 0) rfl dX4_here_1 ?_
      refine lv_aload_n hx hb dX4_here_4 rfl (lv_at hl 0 rfl) ?_
      refine mo_g5 hx hb hts hown hK hP (v := ω 5 0) rfl dX4_here_5 ?_
      have := (okT_a (μ := ω) (by with_reducible assumption)).2
      have := (okT_l (μ := ω) (by with_reducible assumption)).2
      refine lv_icmp_geN (ta ω) (tl ω) hx hb (okT_a (μ := ω) (by with_reducible assumption)).1 (okT_l (μ := ω) (by with_reducible assumption)).1 (by omega) (by omega) (tgt := 38) dX4_here_8 (by decide) (fun c_8 => ?_) (fun c_8 => ?_)
      · have ex : ω = g_X4_here_0 μ 101 μ := ((br_p c_8 rfl) : ω = g_X4_here_0 μ (fu + 1) ω).trans hg_0
        exact K_38 _ _ (by rw [← ex]; exact hP) hS ls (lv_sub hl [0] rfl)
      refine lv_aload_n hx hb dX4_here_11 rfl (lv_at hl 0 rfl) ?_
      refine mo_g4 hx hb hts hown hK hP dX4_here_12 ?_
      refine lv_aload_n hx hb dX4_here_15 rfl (lv_at hl 0 rfl) ?_
      refine mo_g6 hx hb hts hown hK hP (v := ω 6 0) rfl dX4_here_16 ?_
      have := (okT_a (μ := ω) (by with_reducible assumption)).2
      refine mo_r4 hx hb hK hP (ta ω) (okT_a (μ := ω) (by with_reducible assumption)).1 (by omega) (v := ω 4 (ta ω)) rfl dX4_here_19 ?_
      refine lv_bipush (v := 32) hx hb dX4_here_20 (by decide) ?_
      refine lv_icmp_ne (tgt := 38) hx hb dX4_here_22 (by decide) (fun c_22 => ?_) (fun c_22 => ?_)
      · have ex : ω = g_X4_here_0 μ 101 μ := ((br_n c_8 (br_n c_22 rfl)) : ω = g_X4_here_0 μ (fu + 1) ω).trans hg_0
        exact K_38 _ _ (by rw [← ex]; exact hP) hS ls (lv_sub hl [0] rfl)
      refine lv_aload_n hx hb dX4_here_25 rfl (lv_at hl 0 rfl) ?_
      refine lv_dup hx hb dX4_here_26 rfl ?_
      refine mo_g6 hx hb hts hown hK hP (v := ω 6 0) rfl dX4_here_27 ?_
      refine lv_iconst (v := 1) hx hb dX4_here_30 (by decide) ?_
      refine lv_iadd hx hb dX4_here_31 ?_
      refine mo_p6 hx hb hts hown hK hP hD hS dX4_here_32 (fun H locs hP hS => ?_)
      refine lv_goto (tgt := 0) hx hb dX4_here_35 (by decide) ?_
      have hti := (inc_ok hot2 (by omega)).2
      exact ih (shS ω 6 ((ω 6 0) + 1)) (by omega) ((inc_ok hot2 (by omega)).1) hl2 (((br_n c_8 (br_p c_22 rfl)) : g_X4_here_0 μ fu (shS ω 6 ((ω 6 0) + 1)) = g_X4_here_0 μ (fu + 1) ω).trans hg_0) _ _ hP hS ls (lv_sub hl [0] rfl)
  exact L_0 101 μ (by omega) hot rfl rfl _ _ hP hS ls (lv_sub hl [0] rfl)
theorem kV_X4_here {R : Room} {s : State} {args : Array Value} {own : String} {idx : Nat} {c0 : Cond} (hts : ∀ w ∈ c0 :: W0, w.before args s = true) (hl : Cond.methodLink own idx yX4_here ∈ W0) (hR : rm_X4_here.frames + 1 ≤ R.frames ∧ 8 + (1 + 11) + rm_X4_here.locals ≤ R.locals) : CallW R s args own RX4 idx yX4_here cX4_here 1 (some .int) (Cond.code yX4_here cX4_here 1 (some .int) :: W0) rm_X4_here 0 0 0 := cwV 0 hts (gdV hl mi_yX4_here ms_yX4_here mini_X4 mc_yX4_here) rfl rfl rfl (by decide +kernel) hR

theorem here_ok {b : Nat} {μ : Nat → Nat → Int32} (h : okT b μ) : okT b (m_X4_here μ).2 ∧ tl (m_X4_here μ).2 = tl μ ∧ ta μ ≤ ta (m_X4_here μ).2 := by
  unfold m_X4_here
  split <;> exact here_g 101 μ h
theorem here_f {μ : Nat → Nat → Int32} {f : Nat} (hf : f ≠ 6) : (m_X4_here μ).2 f = μ f := by
  unfold m_X4_here
  split <;> exact here_gf hf 101 μ
theorem here_v {μ : Nat → Nat → Int32} : (m_X4_here μ).1 = (-1) ∨ ta (m_X4_here μ).2 < tl (m_X4_here μ).2 := by
  unfold m_X4_here
  split
  · exact Or.inl rfl
  · exact Or.inr (by dsimp only; omega)

/-! X4.reads -/
def g_X4_reads_12 (μ : Nat → Nat → Int32) : Nat → (Nat) → (Int32) → Nat × Int32
  | 0, q, x3 => (q, x3)
  | fu + 1, q, x3 => (if ((m_X4_here μ).1) < 0 then (q, x3) else (if tl ((m_X4_here μ).2) ≤ q then (q, x3) else (if ((((m_X4_here μ).2) 6 0) + 5) ≤ (nI q) then (q, x3) else (if (f_X4_in (((m_X4_here μ).2) 4 q) 48 57) = 0 then (q, x3) else g_X4_reads_12 μ fu (q + 1) (((10 * x3) + (((m_X4_here μ).2) 4 q)) - 48)))))
def m_X4_reads (μ : Nat → Nat → Int32) : Int32 × (Nat → Nat → Int32) := (if (g_X4_reads_12 μ 101 (ta ((m_X4_here μ).2)) 0).1 ≤ ta ((m_X4_here μ).2) then (0, (shS (shS ((m_X4_here μ).2) 6 (nI ((g_X4_reads_12 μ 101 (ta ((m_X4_here μ).2)) 0).1))) 7 ((g_X4_reads_12 μ 101 (ta ((m_X4_here μ).2)) 0).2))) else (if (nI ((g_X4_reads_12 μ 101 (ta ((m_X4_here μ).2)) 0).1)) = ((((m_X4_here μ).2) 6 0) + 5) then (if tl ((m_X4_here μ).2) ≤ (g_X4_reads_12 μ 101 (ta ((m_X4_here μ).2)) 0).1 then (1, (shS (shS ((m_X4_here μ).2) 6 (nI ((g_X4_reads_12 μ 101 (ta ((m_X4_here μ).2)) 0).1))) 7 ((g_X4_reads_12 μ 101 (ta ((m_X4_here μ).2)) 0).2))) else (if (f_X4_in (((m_X4_here μ).2) 4 ((g_X4_reads_12 μ 101 (ta ((m_X4_here μ).2)) 0).1)) 48 57) = 0 then (1, (shS (shS ((m_X4_here μ).2) 6 (nI ((g_X4_reads_12 μ 101 (ta ((m_X4_here μ).2)) 0).1))) 7 ((g_X4_reads_12 μ 101 (ta ((m_X4_here μ).2)) 0).2))) else (0, (shS (shS ((m_X4_here μ).2) 6 (nI ((g_X4_reads_12 μ 101 (ta ((m_X4_here μ).2)) 0).1))) 7 ((g_X4_reads_12 μ 101 (ta ((m_X4_here μ).2)) 0).2))))) else (1, (shS (shS ((m_X4_here μ).2) 6 (nI ((g_X4_reads_12 μ 101 (ta ((m_X4_here μ).2)) 0).1))) 7 ((g_X4_reads_12 μ 101 (ta ((m_X4_here μ).2)) 0).2)))))
abbrev rm_X4_reads : Room := { frames := 1, cells := 0, slots := 0, locals := 22 }
theorem reads_g {b : Nat} {μ : Nat → Nat → Int32} (hb : 100 ≤ b) (ht : tl (m_X4_here μ).2 ≤ 100) : ∀ (fu q : Nat) (z : Int32), q ≤ b → q ≤ (g_X4_reads_12 μ fu q z).1 ∧ (g_X4_reads_12 μ fu q z).1 ≤ b := by
  intro fu
  induction fu with
  | zero => intro q z h; exact ⟨Nat.le_refl _, h⟩
  | succ fu ih =>
    intro q z h
    rw [g_X4_reads_12]
    (repeat' split) <;> first | exact ⟨Nat.le_refl _, h⟩ | exact ⟨Nat.le_trans (Nat.le_succ q) (ih (q + 1) _ (by omega)).1, (ih (q + 1) _ (by omega)).2⟩
set_option maxRecDepth 100000 in
theorem c_X4_reads (l : Launch) (D : va_G) (cI : ClassId) (o : Nat) (a : Nat → Nat) (μ : Nat → Nat → Int32) (hh : Int64) (bb : Nat) (hot : okT bb μ) :
    Met l yX4_reads (Cond.code yX4_reads cX4_reads 5 (some .boolean) :: W0) rm_X4_reads (va_Pc [.ref o] (moM D cI o a μ hh)) (moQ D cI o a hh (m_X4_reads μ)) 0 0 (moA o a) := by
  refine st_gen (cc := cX4_reads) (maxL := 5) (ret := some .boolean) (own := RX4) (by decide) rfl (Nat.le_of_ble_eq_true rfl) ?_
  intro p e s m below meth c ls C hPre hl
  obtain ⟨hx, hb, hr, hml, hown, hts, hlk⟩ := C
  obtain ⟨⟨hP, hK⟩, hD⟩ := hPre
  have hS : va_S (moA o a) s.heap s.heap [] := va_S.rf
  have hl : lv_has ls 5 [(0, .ref (o))] := hl
  have hb1 := (okT_l hot).2
  have hb2 := (okT_a hot).2
  refine lv_aload_n hx hb dX4_reads_0 rfl (lv_at hl 0 rfl) ?_
  refine mo_callM (rest := []) hx hb hml hown hts hK hP hD hS (c_X4_here l D cI o a μ hh _ (by with_reducible assumption)) (kV_X4_here hts ml_X4_198 ⟨(Nat.le_of_ble_eq_true rfl), (Nat.le_of_ble_eq_true rfl)⟩) rfl hl.1 rfl (Nat.le_of_ble_eq_true rfl) dX4_reads_1 (Nat.zero_le _) (Nat.zero_le _) (fun H locs hP hS => ?_)
  have hk_here := here_ok (μ := μ) (by with_reducible assumption)
  obtain ⟨_, _, _⟩ := here_ok (μ := μ) (by with_reducible assumption)
  refine lv_istore_n (lv' := [(1, .int ((m_X4_here μ).1)), (0, .ref (o))]) hx hb dX4_reads_4 rfl hl (by decide) rfl (fun ls hl => ?_)
  refine lv_aload_n hx hb dX4_reads_5 rfl (lv_at hl 1 rfl) ?_
  refine mo_g6 hx hb hts hown hK hP (v := ((m_X4_here μ).2) 6 0) rfl dX4_reads_6 ?_
  refine lv_istore_n (lv' := [(2, .int (((m_X4_here μ).2) 6 0)), (1, .int ((m_X4_here μ).1)), (0, .ref (o))]) hx hb dX4_reads_9 rfl hl (by decide) rfl (fun ls hl => ?_)
  refine lv_iconst (v := 0) hx hb dX4_reads_10 (by decide) ?_
  refine lv_istore_n (lv' := [(3, .int (0)), (2, .int (((m_X4_here μ).2) 6 0)), (1, .int ((m_X4_here μ).1)), (0, .ref (o))]) hx hb dX4_reads_11 rfl hl (by decide) rfl (fun ls hl => ?_)
  have htl4 := (okT_l (μ := (m_X4_here μ).2) (by with_reducible assumption)).2
  have hta4 := (okT_a (μ := (m_X4_here μ).2) (by with_reducible assumption)).2
  have K_71 : ∀ ls, lv_has ls 5 [(1, .int ((m_X4_here μ).1)), (0, .ref (o)), (2, .int (nI ((g_X4_reads_12 μ 101 (ta ((m_X4_here μ).2)) 0).1))), (3, .int ((g_X4_reads_12 μ 101 (ta ((m_X4_here μ).2)) 0).2))] → W p l e rm_X4_reads s m (([.ref (o)] : List Value).toArray) below meth c H locs 0 0 (MQ below (moQ D cI o a hh (m_X4_reads μ)) ([.ref (o)] : List Value).toArray s 0 0 (moA o a)) (F0 m 71 ls []) := by
    intro ls hl
    have hrg := reads_g (b := bb) (μ := μ) (by omega) htl4 101 (ta (m_X4_here μ).2) 0 hta4.1
    have hrg2 := hrg.2
    refine lv_iload_n hx hb dX4_reads_71 rfl (lv_at hl 2 rfl) ?_
    refine lv_aload_n hx hb dX4_reads_72 rfl (lv_at hl 1 rfl) ?_
    refine mo_g6 hx hb hts hown hK hP (v := ((m_X4_here μ).2) 6 0) rfl dX4_reads_73 ?_
    have := (okT_a (μ := ((m_X4_here μ).2)) (by with_reducible assumption)).2
    refine lv_icmp_leN ((g_X4_reads_12 μ 101 (ta ((m_X4_here μ).2)) 0).1) (ta ((m_X4_here μ).2)) hx hb rfl (okT_a (μ := ((m_X4_here μ).2)) (by with_reducible assumption)).1 (by omega) (by omega) (tgt := 117) dX4_reads_76 (by decide) (fun c_76 => ?_) (fun c_76 => ?_)
    · refine lv_iconst (v := 0) hx hb dX4_reads_117 (by decide) ?_
      refine lv_istore (lv' := [(4, .int (0)), (1, .int ((m_X4_here μ).1)), (0, .ref (o)), (2, .int (nI ((g_X4_reads_12 μ 101 (ta ((m_X4_here μ).2)) 0).1))), (3, .int ((g_X4_reads_12 μ 101 (ta ((m_X4_here μ).2)) 0).2))]) hx hb dX4_reads_118 hl (by decide) rfl (fun ls hl => ?_)
      refine lv_aload_n hx hb dX4_reads_120 rfl (lv_at hl 2 rfl) ?_
      refine lv_iload_n hx hb dX4_reads_121 rfl (lv_at hl 3 rfl) ?_
      refine mo_p6 hx hb hts hown hK hP hD hS dX4_reads_122 (fun H locs hP hS => ?_)
      refine lv_aload_n hx hb dX4_reads_125 rfl (lv_at hl 2 rfl) ?_
      refine lv_iload_n hx hb dX4_reads_126 rfl (lv_at hl 4 rfl) ?_
      refine mo_p7 hx hb hts hown hK hP hD hS dX4_reads_127 (fun H locs hP hS => ?_)
      refine lv_iload hx hb dX4_reads_130 (lv_at hl 0 rfl) ?_
      exact mo_finMz hx hb hr hlk hK hP hS (Or.inl rfl) (br_p c_76 rfl) dX4_reads_132
    refine lv_iload_n hx hb dX4_reads_79 rfl (lv_at hl 2 rfl) ?_
    refine lv_aload_n hx hb dX4_reads_80 rfl (lv_at hl 1 rfl) ?_
    refine mo_g6 hx hb hts hown hK hP (v := ((m_X4_here μ).2) 6 0) rfl dX4_reads_81 ?_
    refine lv_iconst (v := 5) hx hb dX4_reads_84 (by decide) ?_
    refine lv_iadd hx hb dX4_reads_85 ?_
    refine lv_icmp_ne (tgt := 113) hx hb dX4_reads_86 (by decide) (fun c_86 => ?_) (fun c_86 => ?_)
    · refine lv_iconst (v := 1) hx hb dX4_reads_113 (by decide) ?_
      refine lv_goto (tgt := 118) hx hb dX4_reads_114 (by decide) ?_
      refine lv_istore (lv' := [(4, .int (1)), (1, .int ((m_X4_here μ).1)), (0, .ref (o)), (2, .int (nI ((g_X4_reads_12 μ 101 (ta ((m_X4_here μ).2)) 0).1))), (3, .int ((g_X4_reads_12 μ 101 (ta ((m_X4_here μ).2)) 0).2))]) hx hb dX4_reads_118 hl (by decide) rfl (fun ls hl => ?_)
      refine lv_aload_n hx hb dX4_reads_120 rfl (lv_at hl 2 rfl) ?_
      refine lv_iload_n hx hb dX4_reads_121 rfl (lv_at hl 3 rfl) ?_
      refine mo_p6 hx hb hts hown hK hP hD hS dX4_reads_122 (fun H locs hP hS => ?_)
      refine lv_aload_n hx hb dX4_reads_125 rfl (lv_at hl 2 rfl) ?_
      refine lv_iload_n hx hb dX4_reads_126 rfl (lv_at hl 4 rfl) ?_
      refine mo_p7 hx hb hts hown hK hP hD hS dX4_reads_127 (fun H locs hP hS => ?_)
      refine lv_iload hx hb dX4_reads_130 (lv_at hl 0 rfl) ?_
      exact mo_finMz hx hb hr hlk hK hP hS (Or.inr rfl) (br_n c_76 (br_n c_86 rfl)) dX4_reads_132
    refine lv_iload_n hx hb dX4_reads_89 rfl (lv_at hl 2 rfl) ?_
    refine lv_aload_n hx hb dX4_reads_90 rfl (lv_at hl 1 rfl) ?_
    refine mo_g5 hx hb hts hown hK hP (v := ((m_X4_here μ).2) 5 0) rfl dX4_reads_91 ?_
    have := (okT_l (μ := ((m_X4_here μ).2)) (by with_reducible assumption)).2
    refine lv_icmp_geN ((g_X4_reads_12 μ 101 (ta ((m_X4_here μ).2)) 0).1) (tl ((m_X4_here μ).2)) hx hb rfl (okT_l (μ := ((m_X4_here μ).2)) (by with_reducible assumption)).1 (by omega) (by omega) (tgt := 113) dX4_reads_94 (by decide) (fun c_94 => ?_) (fun c_94 => ?_)
    · refine lv_iconst (v := 1) hx hb dX4_reads_113 (by decide) ?_
      refine lv_goto (tgt := 118) hx hb dX4_reads_114 (by decide) ?_
      refine lv_istore (lv' := [(4, .int (1)), (1, .int ((m_X4_here μ).1)), (0, .ref (o)), (2, .int (nI ((g_X4_reads_12 μ 101 (ta ((m_X4_here μ).2)) 0).1))), (3, .int ((g_X4_reads_12 μ 101 (ta ((m_X4_here μ).2)) 0).2))]) hx hb dX4_reads_118 hl (by decide) rfl (fun ls hl => ?_)
      refine lv_aload_n hx hb dX4_reads_120 rfl (lv_at hl 2 rfl) ?_
      refine lv_iload_n hx hb dX4_reads_121 rfl (lv_at hl 3 rfl) ?_
      refine mo_p6 hx hb hts hown hK hP hD hS dX4_reads_122 (fun H locs hP hS => ?_)
      refine lv_aload_n hx hb dX4_reads_125 rfl (lv_at hl 2 rfl) ?_
      refine lv_iload_n hx hb dX4_reads_126 rfl (lv_at hl 4 rfl) ?_
      refine mo_p7 hx hb hts hown hK hP hD hS dX4_reads_127 (fun H locs hP hS => ?_)
      refine lv_iload hx hb dX4_reads_130 (lv_at hl 0 rfl) ?_
      exact mo_finMz hx hb hr hlk hK hP hS (Or.inr rfl) (br_n c_76 (br_p c_86 (br_p c_94 rfl))) dX4_reads_132
    refine lv_aload_n hx hb dX4_reads_97 rfl (lv_at hl 1 rfl) ?_
    refine mo_g4 hx hb hts hown hK hP dX4_reads_98 ?_
    refine lv_iload_n hx hb dX4_reads_101 rfl (lv_at hl 2 rfl) ?_
    refine mo_r4 hx hb hK hP ((g_X4_reads_12 μ 101 (ta ((m_X4_here μ).2)) 0).1) rfl (by omega) (v := ((m_X4_here μ).2) 4 ((g_X4_reads_12 μ 101 (ta ((m_X4_here μ).2)) 0).1)) rfl dX4_reads_102 ?_
    refine lv_bipush (v := 48) hx hb dX4_reads_103 (by decide) ?_
    refine lv_bipush (v := 57) hx hb dX4_reads_105 (by decide) ?_
    refine cl_S (rest := []) hx hb hml hown hts (c_X4_in l (((m_X4_here μ).2) 4 ((g_X4_reads_12 μ 101 (ta ((m_X4_here μ).2)) 0).1)) 48 57) (kS_X4_in hts ml_X4_30 ⟨(Nat.le_of_ble_eq_true rfl), (Nat.le_of_ble_eq_true rfl)⟩) rfl hl.1 rfl (Nat.le_of_ble_eq_true rfl) dX4_reads_107 (Nat.zero_le _) (Nat.zero_le _) ?_
    refine lv_if_ne (tgt := 117) hx hb dX4_reads_110 (by decide) (fun c_110 => ?_) (fun c_110 => ?_)
    · refine lv_iconst (v := 0) hx hb dX4_reads_117 (by decide) ?_
      refine lv_istore (lv' := [(4, .int (0)), (1, .int ((m_X4_here μ).1)), (0, .ref (o)), (2, .int (nI ((g_X4_reads_12 μ 101 (ta ((m_X4_here μ).2)) 0).1))), (3, .int ((g_X4_reads_12 μ 101 (ta ((m_X4_here μ).2)) 0).2))]) hx hb dX4_reads_118 hl (by decide) rfl (fun ls hl => ?_)
      refine lv_aload_n hx hb dX4_reads_120 rfl (lv_at hl 2 rfl) ?_
      refine lv_iload_n hx hb dX4_reads_121 rfl (lv_at hl 3 rfl) ?_
      refine mo_p6 hx hb hts hown hK hP hD hS dX4_reads_122 (fun H locs hP hS => ?_)
      refine lv_aload_n hx hb dX4_reads_125 rfl (lv_at hl 2 rfl) ?_
      refine lv_iload_n hx hb dX4_reads_126 rfl (lv_at hl 4 rfl) ?_
      refine mo_p7 hx hb hts hown hK hP hD hS dX4_reads_127 (fun H locs hP hS => ?_)
      refine lv_iload hx hb dX4_reads_130 (lv_at hl 0 rfl) ?_
      exact mo_finMz hx hb hr hlk hK hP hS (Or.inl rfl) (br_n c_76 (br_p c_86 (br_n c_94 (br_n c_110 rfl)))) dX4_reads_132
    refine lv_iconst (v := 1) hx hb dX4_reads_113 (by decide) ?_
    refine lv_goto (tgt := 118) hx hb dX4_reads_114 (by decide) ?_
    refine lv_istore (lv' := [(4, .int (1)), (1, .int ((m_X4_here μ).1)), (0, .ref (o)), (2, .int (nI ((g_X4_reads_12 μ 101 (ta ((m_X4_here μ).2)) 0).1))), (3, .int ((g_X4_reads_12 μ 101 (ta ((m_X4_here μ).2)) 0).2))]) hx hb dX4_reads_118 hl (by decide) rfl (fun ls hl => ?_)
    refine lv_aload_n hx hb dX4_reads_120 rfl (lv_at hl 2 rfl) ?_
    refine lv_iload_n hx hb dX4_reads_121 rfl (lv_at hl 3 rfl) ?_
    refine mo_p6 hx hb hts hown hK hP hD hS dX4_reads_122 (fun H locs hP hS => ?_)
    refine lv_aload_n hx hb dX4_reads_125 rfl (lv_at hl 2 rfl) ?_
    refine lv_iload_n hx hb dX4_reads_126 rfl (lv_at hl 4 rfl) ?_
    refine mo_p7 hx hb hts hown hK hP hD hS dX4_reads_127 (fun H locs hP hS => ?_)
    refine lv_iload hx hb dX4_reads_130 (lv_at hl 0 rfl) ?_
    exact mo_finMz hx hb hr hlk hK hP hS (Or.inr rfl) (br_n c_76 (br_p c_86 (br_n c_94 (br_p c_110 rfl)))) dX4_reads_132
  have L_12 : ∀ (fu : Nat) (q : Nat) (x3 : Int32), tl (m_X4_here μ).2 - q < fu → q ≤ bb → g_X4_reads_12 μ fu q x3 = g_X4_reads_12 μ 101 (ta ((m_X4_here μ).2)) 0 → ∀ ls, lv_has ls 5 [(1, .int ((m_X4_here μ).1)), (0, .ref (o)), (2, .int (nI q)), (3, .int (x3))] → W p l e rm_X4_reads s m (([.ref (o)] : List Value).toArray) below meth c H locs 0 0 (MQ below (moQ D cI o a hh (m_X4_reads μ)) ([.ref (o)] : List Value).toArray s 0 0 (moA o a)) (F0 m 12 ls []) := by
    intro fu
    induction fu with
    | zero => intro q x3 hm; exact absurd hm (Nat.not_lt_zero _)
    | succ fu ih =>
      intro q x3 hm hq hg_12 ls hl
      refine lv_iload_n hx hb dX4_reads_12 rfl (lv_at hl 0 rfl) ?_
      refine lv_if_lt (tgt := 71) hx hb dX4_reads_13 (by decide) (fun c_13 => ?_) (fun c_13 => ?_)
      · have ex : (q, x3) = g_X4_reads_12 μ 101 (ta ((m_X4_here μ).2)) 0 := ((br_p c_13 rfl) : (q, x3) = g_X4_reads_12 μ (fu + 1) q x3).trans hg_12
        have ex0 : q = (g_X4_reads_12 μ 101 (ta ((m_X4_here μ).2)) 0).1 := congrArg (fun z => z.1) ex
        have ex1 : x3 = (g_X4_reads_12 μ 101 (ta ((m_X4_here μ).2)) 0).2 := congrArg (fun z => z.2) ex
        exact K_71 ls (by rw [← ex0, ← ex1]; exact lv_sub hl [0, 1, 2, 3] rfl)
      refine lv_iload_n hx hb dX4_reads_16 rfl (lv_at hl 2 rfl) ?_
      refine lv_aload_n hx hb dX4_reads_17 rfl (lv_at hl 1 rfl) ?_
      refine mo_g5 hx hb hts hown hK hP (v := ((m_X4_here μ).2) 5 0) rfl dX4_reads_18 ?_
      have := (okT_l (μ := ((m_X4_here μ).2)) (by with_reducible assumption)).2
      refine lv_icmp_geN (q) (tl ((m_X4_here μ).2)) hx hb rfl (okT_l (μ := ((m_X4_here μ).2)) (by with_reducible assumption)).1 (by omega) (by omega) (tgt := 71) dX4_reads_21 (by decide) (fun c_21 => ?_) (fun c_21 => ?_)
      · have ex : (q, x3) = g_X4_reads_12 μ 101 (ta ((m_X4_here μ).2)) 0 := ((br_n c_13 (br_p c_21 rfl)) : (q, x3) = g_X4_reads_12 μ (fu + 1) q x3).trans hg_12
        have ex0 : q = (g_X4_reads_12 μ 101 (ta ((m_X4_here μ).2)) 0).1 := congrArg (fun z => z.1) ex
        have ex1 : x3 = (g_X4_reads_12 μ 101 (ta ((m_X4_here μ).2)) 0).2 := congrArg (fun z => z.2) ex
        exact K_71 ls (by rw [← ex0, ← ex1]; exact lv_sub hl [0, 1, 2, 3] rfl)
      refine lv_iload_n hx hb dX4_reads_24 rfl (lv_at hl 2 rfl) ?_
      refine lv_aload_n hx hb dX4_reads_25 rfl (lv_at hl 1 rfl) ?_
      refine mo_g6 hx hb hts hown hK hP (v := ((m_X4_here μ).2) 6 0) rfl dX4_reads_26 ?_
      refine lv_iconst (v := 5) hx hb dX4_reads_29 (by decide) ?_
      refine lv_iadd hx hb dX4_reads_30 ?_
      refine lv_icmp_ge (tgt := 71) hx hb dX4_reads_31 (by decide) (fun c_31 => ?_) (fun c_31 => ?_)
      · have ex : (q, x3) = g_X4_reads_12 μ 101 (ta ((m_X4_here μ).2)) 0 := ((br_n c_13 (br_n c_21 (br_p c_31 rfl))) : (q, x3) = g_X4_reads_12 μ (fu + 1) q x3).trans hg_12
        have ex0 : q = (g_X4_reads_12 μ 101 (ta ((m_X4_here μ).2)) 0).1 := congrArg (fun z => z.1) ex
        have ex1 : x3 = (g_X4_reads_12 μ 101 (ta ((m_X4_here μ).2)) 0).2 := congrArg (fun z => z.2) ex
        exact K_71 ls (by rw [← ex0, ← ex1]; exact lv_sub hl [0, 1, 2, 3] rfl)
      refine lv_aload_n hx hb dX4_reads_34 rfl (lv_at hl 1 rfl) ?_
      refine mo_g4 hx hb hts hown hK hP dX4_reads_35 ?_
      refine lv_iload_n hx hb dX4_reads_38 rfl (lv_at hl 2 rfl) ?_
      refine mo_r4 hx hb hK hP (q) rfl (by omega) (v := ((m_X4_here μ).2) 4 q) rfl dX4_reads_39 ?_
      refine lv_bipush (v := 48) hx hb dX4_reads_40 (by decide) ?_
      refine lv_bipush (v := 57) hx hb dX4_reads_42 (by decide) ?_
      refine cl_S (rest := []) hx hb hml hown hts (c_X4_in l (((m_X4_here μ).2) 4 q) 48 57) (kS_X4_in hts ml_X4_30 ⟨(Nat.le_of_ble_eq_true rfl), (Nat.le_of_ble_eq_true rfl)⟩) rfl hl.1 rfl (Nat.le_of_ble_eq_true rfl) dX4_reads_44 (Nat.zero_le _) (Nat.zero_le _) ?_
      refine lv_if_eq (tgt := 71) hx hb dX4_reads_47 (by decide) (fun c_47 => ?_) (fun c_47 => ?_)
      · have ex : (q, x3) = g_X4_reads_12 μ 101 (ta ((m_X4_here μ).2)) 0 := ((br_n c_13 (br_n c_21 (br_n c_31 (br_p c_47 rfl)))) : (q, x3) = g_X4_reads_12 μ (fu + 1) q x3).trans hg_12
        have ex0 : q = (g_X4_reads_12 μ 101 (ta ((m_X4_here μ).2)) 0).1 := congrArg (fun z => z.1) ex
        have ex1 : x3 = (g_X4_reads_12 μ 101 (ta ((m_X4_here μ).2)) 0).2 := congrArg (fun z => z.2) ex
        exact K_71 ls (by rw [← ex0, ← ex1]; exact lv_sub hl [0, 1, 2, 3] rfl)
      refine lv_bipush (v := 10) hx hb dX4_reads_50 (by decide) ?_
      refine lv_iload_n hx hb dX4_reads_52 rfl (lv_at hl 3 rfl) ?_
      refine lv_imul hx hb dX4_reads_53 ?_
      refine lv_aload_n hx hb dX4_reads_54 rfl (lv_at hl 1 rfl) ?_
      refine mo_g4 hx hb hts hown hK hP dX4_reads_55 ?_
      refine lv_iload_n hx hb dX4_reads_58 rfl (lv_at hl 2 rfl) ?_
      refine mo_r4 hx hb hK hP (q) rfl (by omega) (v := ((m_X4_here μ).2) 4 q) rfl dX4_reads_59 ?_
      refine lv_iadd hx hb dX4_reads_60 ?_
      refine lv_bipush (v := 48) hx hb dX4_reads_61 (by decide) ?_
      refine lv_isub hx hb dX4_reads_63 ?_
      refine lv_istore_n (lv' := [(3, .int (((10 * x3) + (((m_X4_here μ).2) 4 q)) - 48)), (1, .int ((m_X4_here μ).1)), (0, .ref (o)), (2, .int (nI q))]) hx hb dX4_reads_64 rfl hl (by decide) rfl (fun ls hl => ?_)
      refine lv_iinc (v := nI (q + 1)) (lv' := [(2, .int (nI (q + 1))), (3, .int (((10 * x3) + (((m_X4_here μ).2) 4 q)) - 48)), (1, .int ((m_X4_here μ).1)), (0, .ref (o))]) hx hb dX4_reads_65 hl (k := 3) rfl (nI_c1 _) (by decide) rfl (fun ls hl => ?_)
      refine lv_goto (tgt := 12) hx hb dX4_reads_68 (by decide) ?_
      exact ih (q + 1) (((10 * x3) + (((m_X4_here μ).2) 4 q)) - 48) (by omega) (by omega) (((br_n c_13 (br_n c_21 (br_n c_31 (br_n c_47 rfl)))) : g_X4_reads_12 μ fu (q + 1) (((10 * x3) + (((m_X4_here μ).2) 4 q)) - 48) = g_X4_reads_12 μ (fu + 1) q x3).trans hg_12) ls (lv_sub hl [2, 3, 0, 1] rfl)
  rw [(okT_a (μ := ((m_X4_here μ).2)) (by with_reducible assumption)).1] at hl
  exact L_12 101 (ta ((m_X4_here μ).2)) 0 (by omega) (by omega) rfl ls (lv_sub hl [2, 3, 1, 0] rfl)
theorem kV_X4_reads {R : Room} {s : State} {args : Array Value} {own : String} {idx : Nat} {c0 : Cond} (hts : ∀ w ∈ c0 :: W0, w.before args s = true) (hl : Cond.methodLink own idx yX4_reads ∈ W0) (hR : rm_X4_reads.frames + 1 ≤ R.frames ∧ 8 + (5 + 11) + rm_X4_reads.locals ≤ R.locals) : CallW R s args own RX4 idx yX4_reads cX4_reads 5 (some .boolean) (Cond.code yX4_reads cX4_reads 5 (some .boolean) :: W0) rm_X4_reads 0 0 0 := cwV 0 hts (gdV hl mi_yX4_reads ms_yX4_reads mini_X4 mc_yX4_reads) rfl rfl rfl (by decide +kernel) hR

theorem reads_ok {b : Nat} {μ : Nat → Nat → Int32} (h : okT b μ) : okT b (m_X4_reads μ).2 ∧ tl (m_X4_reads μ).2 = tl μ ∧ ta μ ≤ ta (m_X4_reads μ).2 := by
  obtain ⟨h1, h2, h3⟩ := here_ok h
  have h4 := (okT_l h1).2
  have h5 := (okT_a h1).2
  have hg := reads_g (b := b) h5.2.1 h4 101 (ta (m_X4_here μ).2) 0 h5.1
  unfold m_X4_reads
  have key : ∀ v : Int32, okT b (shS (shS (m_X4_here μ).2 6 (nI (g_X4_reads_12 μ 101 (ta (m_X4_here μ).2) 0).1)) 7 v) ∧ tl (shS (shS (m_X4_here μ).2 6 (nI (g_X4_reads_12 μ 101 (ta (m_X4_here μ).2) 0).1)) 7 v) = tl μ ∧ ta μ ≤ ta (shS (shS (m_X4_here μ).2 6 (nI (g_X4_reads_12 μ 101 (ta (m_X4_here μ).2) 0).1)) 7 v) := by
    intro v
    have r := okT_mk (b' := b) h1 (μ' := shS (shS (m_X4_here μ).2 6 (nI (g_X4_reads_12 μ 101 (ta (m_X4_here μ).2) 0).1)) 7 v) rfl (g_X4_reads_12 μ 101 (ta (m_X4_here μ).2) 0).1 rfl hg.2 h5.2
    exact ⟨r.1, r.2.2.trans h2, by rw [r.2.1]; omega⟩
  (repeat' split) <;> exact key _
theorem reads_f {μ : Nat → Nat → Int32} {f : Nat} (hf : f ≠ 6) (hf7 : f ≠ 7) : (m_X4_reads μ).2 f = μ f := by
  unfold m_X4_reads
  (repeat' split) <;> (dsimp only; rw [shS_f hf7, shS_f hf, here_f hf])

/-! X4.word -/
def g_X4_word_12 (μ : Nat → Nat → Int32) : Nat → (Nat) → (Int32) → Int32
  | 0, q, x2 => x2
  | fu + 1, q, x2 => (if ((m_X4_here μ).1) < 0 then x2 else (if tl ((m_X4_here μ).2) ≤ q then x2 else (if ((((m_X4_here μ).2) 6 0) + 5) ≤ (nI q) then x2 else (if (f_X4_in (((m_X4_here μ).2) 4 q) 97 122) = 0 then x2 else g_X4_word_12 μ fu (q + 1) ((((27 * x2) + (((m_X4_here μ).2) 4 q)) - 97) + 1)))))
def m_X4_word (μ : Nat → Nat → Int32) : Int32 × (Nat → Nat → Int32) := ((g_X4_word_12 μ 101 (ta ((m_X4_here μ).2)) 0), (m_X4_here μ).2)
abbrev rm_X4_word : Room := { frames := 1, cells := 0, slots := 0, locals := 22 }
set_option maxRecDepth 100000 in
theorem c_X4_word (l : Launch) (D : va_G) (cI : ClassId) (o : Nat) (a : Nat → Nat) (μ : Nat → Nat → Int32) (hh : Int64) (bb : Nat) (hot : okT bb μ) :
    Met l yX4_word (Cond.code yX4_word cX4_word 4 (some .int) :: W0) rm_X4_word (va_Pc [.ref o] (moM D cI o a μ hh)) (moQ D cI o a hh (m_X4_word μ)) 0 0 (moA o a) := by
  refine st_gen (cc := cX4_word) (maxL := 4) (ret := some .int) (own := RX4) (by decide) rfl (Nat.le_of_ble_eq_true rfl) ?_
  intro p e s m below meth c ls C hPre hl
  obtain ⟨hx, hb, hr, hml, hown, hts, hlk⟩ := C
  obtain ⟨⟨hP, hK⟩, hD⟩ := hPre
  have hS : va_S (moA o a) s.heap s.heap [] := va_S.rf
  have hl : lv_has ls 4 [(0, .ref (o))] := hl
  have hb1 := (okT_l hot).2
  have hb2 := (okT_a hot).2
  refine lv_aload_n hx hb dX4_word_0 rfl (lv_at hl 0 rfl) ?_
  refine mo_callM (rest := []) hx hb hml hown hts hK hP hD hS (c_X4_here l D cI o a μ hh _ (by with_reducible assumption)) (kV_X4_here hts ml_X4_198 ⟨(Nat.le_of_ble_eq_true rfl), (Nat.le_of_ble_eq_true rfl)⟩) rfl hl.1 rfl (Nat.le_of_ble_eq_true rfl) dX4_word_1 (Nat.zero_le _) (Nat.zero_le _) (fun H locs hP hS => ?_)
  have hk_here := here_ok (μ := μ) (by with_reducible assumption)
  obtain ⟨_, _, _⟩ := here_ok (μ := μ) (by with_reducible assumption)
  refine lv_istore_n (lv' := [(1, .int ((m_X4_here μ).1)), (0, .ref (o))]) hx hb dX4_word_4 rfl hl (by decide) rfl (fun ls hl => ?_)
  refine lv_iconst (v := 0) hx hb dX4_word_5 (by decide) ?_
  refine lv_istore_n (lv' := [(2, .int (0)), (1, .int ((m_X4_here μ).1)), (0, .ref (o))]) hx hb dX4_word_6 rfl hl (by decide) rfl (fun ls hl => ?_)
  refine lv_aload_n hx hb dX4_word_7 rfl (lv_at hl 2 rfl) ?_
  refine mo_g6 hx hb hts hown hK hP (v := ((m_X4_here μ).2) 6 0) rfl dX4_word_8 ?_
  refine lv_istore_n (lv' := [(3, .int (((m_X4_here μ).2) 6 0)), (2, .int (0)), (1, .int ((m_X4_here μ).1)), (0, .ref (o))]) hx hb dX4_word_11 rfl hl (by decide) rfl (fun ls hl => ?_)
  have htl4 := (okT_l (μ := (m_X4_here μ).2) (by with_reducible assumption)).2
  have hta4 := (okT_a (μ := (m_X4_here μ).2) (by with_reducible assumption)).2
  have K_73 : ∀ ls, lv_has ls 4 [(1, .int ((m_X4_here μ).1)), (0, .ref (o)), (2, .int ((g_X4_word_12 μ 101 (ta ((m_X4_here μ).2)) 0)))] → W p l e rm_X4_word s m (([.ref (o)] : List Value).toArray) below meth c H locs 0 0 (MQ below (moQ D cI o a hh (m_X4_word μ)) ([.ref (o)] : List Value).toArray s 0 0 (moA o a)) (F0 m 73 ls []) := by
    intro ls hl
    refine lv_iload_n hx hb dX4_word_73 rfl (lv_at hl 2 rfl) ?_
    exact mo_finM hx hb hr hlk hK hP hS rfl dX4_word_74
  have L_12 : ∀ (fu : Nat) (q : Nat) (x2 : Int32), tl (m_X4_here μ).2 - q < fu → q ≤ bb → g_X4_word_12 μ fu q x2 = g_X4_word_12 μ 101 (ta ((m_X4_here μ).2)) 0 → ∀ ls, lv_has ls 4 [(1, .int ((m_X4_here μ).1)), (0, .ref (o)), (3, .int (nI q)), (2, .int (x2))] → W p l e rm_X4_word s m (([.ref (o)] : List Value).toArray) below meth c H locs 0 0 (MQ below (moQ D cI o a hh (m_X4_word μ)) ([.ref (o)] : List Value).toArray s 0 0 (moA o a)) (F0 m 12 ls []) := by
    intro fu
    induction fu with
    | zero => intro q x2 hm; exact absurd hm (Nat.not_lt_zero _)
    | succ fu ih =>
      intro q x2 hm hq hg_12 ls hl
      refine lv_iload_n hx hb dX4_word_12 rfl (lv_at hl 0 rfl) ?_
      refine lv_if_lt (tgt := 73) hx hb dX4_word_13 (by decide) (fun c_13 => ?_) (fun c_13 => ?_)
      · have ex : x2 = g_X4_word_12 μ 101 (ta ((m_X4_here μ).2)) 0 := ((br_p c_13 rfl) : x2 = g_X4_word_12 μ (fu + 1) q x2).trans hg_12
        exact K_73 ls (by rw [← ex]; exact lv_sub hl [0, 1, 3] rfl)
      refine lv_iload_n hx hb dX4_word_16 rfl (lv_at hl 2 rfl) ?_
      refine lv_aload_n hx hb dX4_word_17 rfl (lv_at hl 1 rfl) ?_
      refine mo_g5 hx hb hts hown hK hP (v := ((m_X4_here μ).2) 5 0) rfl dX4_word_18 ?_
      have := (okT_l (μ := ((m_X4_here μ).2)) (by with_reducible assumption)).2
      refine lv_icmp_geN (q) (tl ((m_X4_here μ).2)) hx hb rfl (okT_l (μ := ((m_X4_here μ).2)) (by with_reducible assumption)).1 (by omega) (by omega) (tgt := 73) dX4_word_21 (by decide) (fun c_21 => ?_) (fun c_21 => ?_)
      · have ex : x2 = g_X4_word_12 μ 101 (ta ((m_X4_here μ).2)) 0 := ((br_n c_13 (br_p c_21 rfl)) : x2 = g_X4_word_12 μ (fu + 1) q x2).trans hg_12
        exact K_73 ls (by rw [← ex]; exact lv_sub hl [0, 1, 3] rfl)
      refine lv_iload_n hx hb dX4_word_24 rfl (lv_at hl 2 rfl) ?_
      refine lv_aload_n hx hb dX4_word_25 rfl (lv_at hl 1 rfl) ?_
      refine mo_g6 hx hb hts hown hK hP (v := ((m_X4_here μ).2) 6 0) rfl dX4_word_26 ?_
      refine lv_iconst (v := 5) hx hb dX4_word_29 (by decide) ?_
      refine lv_iadd hx hb dX4_word_30 ?_
      refine lv_icmp_ge (tgt := 73) hx hb dX4_word_31 (by decide) (fun c_31 => ?_) (fun c_31 => ?_)
      · have ex : x2 = g_X4_word_12 μ 101 (ta ((m_X4_here μ).2)) 0 := ((br_n c_13 (br_n c_21 (br_p c_31 rfl))) : x2 = g_X4_word_12 μ (fu + 1) q x2).trans hg_12
        exact K_73 ls (by rw [← ex]; exact lv_sub hl [0, 1, 3] rfl)
      refine lv_aload_n hx hb dX4_word_34 rfl (lv_at hl 1 rfl) ?_
      refine mo_g4 hx hb hts hown hK hP dX4_word_35 ?_
      refine lv_iload_n hx hb dX4_word_38 rfl (lv_at hl 2 rfl) ?_
      refine mo_r4 hx hb hK hP (q) rfl (by omega) (v := ((m_X4_here μ).2) 4 q) rfl dX4_word_39 ?_
      refine lv_bipush (v := 97) hx hb dX4_word_40 (by decide) ?_
      refine lv_bipush (v := 122) hx hb dX4_word_42 (by decide) ?_
      refine cl_S (rest := []) hx hb hml hown hts (c_X4_in l (((m_X4_here μ).2) 4 q) 97 122) (kS_X4_in hts ml_X4_30 ⟨(Nat.le_of_ble_eq_true rfl), (Nat.le_of_ble_eq_true rfl)⟩) rfl hl.1 rfl (Nat.le_of_ble_eq_true rfl) dX4_word_44 (Nat.zero_le _) (Nat.zero_le _) ?_
      refine lv_if_eq (tgt := 73) hx hb dX4_word_47 (by decide) (fun c_47 => ?_) (fun c_47 => ?_)
      · have ex : x2 = g_X4_word_12 μ 101 (ta ((m_X4_here μ).2)) 0 := ((br_n c_13 (br_n c_21 (br_n c_31 (br_p c_47 rfl)))) : x2 = g_X4_word_12 μ (fu + 1) q x2).trans hg_12
        exact K_73 ls (by rw [← ex]; exact lv_sub hl [0, 1, 3] rfl)
      refine lv_bipush (v := 27) hx hb dX4_word_50 (by decide) ?_
      refine lv_iload_n hx hb dX4_word_52 rfl (lv_at hl 3 rfl) ?_
      refine lv_imul hx hb dX4_word_53 ?_
      refine lv_aload_n hx hb dX4_word_54 rfl (lv_at hl 1 rfl) ?_
      refine mo_g4 hx hb hts hown hK hP dX4_word_55 ?_
      refine lv_iload_n hx hb dX4_word_58 rfl (lv_at hl 2 rfl) ?_
      refine mo_r4 hx hb hK hP (q) rfl (by omega) (v := ((m_X4_here μ).2) 4 q) rfl dX4_word_59 ?_
      refine lv_iadd hx hb dX4_word_60 ?_
      refine lv_bipush (v := 97) hx hb dX4_word_61 (by decide) ?_
      refine lv_isub hx hb dX4_word_63 ?_
      refine lv_iconst (v := 1) hx hb dX4_word_64 (by decide) ?_
      refine lv_iadd hx hb dX4_word_65 ?_
      refine lv_istore_n (lv' := [(2, .int ((((27 * x2) + (((m_X4_here μ).2) 4 q)) - 97) + 1)), (1, .int ((m_X4_here μ).1)), (0, .ref (o)), (3, .int (nI q))]) hx hb dX4_word_66 rfl hl (by decide) rfl (fun ls hl => ?_)
      refine lv_iinc (v := nI (q + 1)) (lv' := [(3, .int (nI (q + 1))), (2, .int ((((27 * x2) + (((m_X4_here μ).2) 4 q)) - 97) + 1)), (1, .int ((m_X4_here μ).1)), (0, .ref (o))]) hx hb dX4_word_67 hl (k := 3) rfl (nI_c1 _) (by decide) rfl (fun ls hl => ?_)
      refine lv_goto (tgt := 12) hx hb dX4_word_70 (by decide) ?_
      exact ih (q + 1) ((((27 * x2) + (((m_X4_here μ).2) 4 q)) - 97) + 1) (by omega) (by omega) (((br_n c_13 (br_n c_21 (br_n c_31 (br_n c_47 rfl)))) : g_X4_word_12 μ fu (q + 1) ((((27 * x2) + (((m_X4_here μ).2) 4 q)) - 97) + 1) = g_X4_word_12 μ (fu + 1) q x2).trans hg_12) ls (lv_sub hl [2, 3, 0, 1] rfl)
  rw [(okT_a (μ := ((m_X4_here μ).2)) (by with_reducible assumption)).1] at hl
  exact L_12 101 (ta ((m_X4_here μ).2)) 0 (by omega) (by omega) rfl ls (lv_sub hl [2, 3, 0, 1] rfl)
theorem kV_X4_word {R : Room} {s : State} {args : Array Value} {own : String} {idx : Nat} {c0 : Cond} (hts : ∀ w ∈ c0 :: W0, w.before args s = true) (hl : Cond.methodLink own idx yX4_word ∈ W0) (hR : rm_X4_word.frames + 1 ≤ R.frames ∧ 8 + (4 + 11) + rm_X4_word.locals ≤ R.locals) : CallW R s args own RX4 idx yX4_word cX4_word 4 (some .int) (Cond.code yX4_word cX4_word 4 (some .int) :: W0) rm_X4_word 0 0 0 := cwV 0 hts (gdV hl mi_yX4_word ms_yX4_word mini_X4 mc_yX4_word) rfl rfl rfl (by decide +kernel) hR

theorem word_s {μ : Nat → Nat → Int32} : (m_X4_word μ).2 = (m_X4_here μ).2 := rfl
theorem word_ok {b : Nat} {μ : Nat → Nat → Int32} (h : okT b μ) : okT b (m_X4_word μ).2 ∧ tl (m_X4_word μ).2 = tl μ ∧ ta μ ≤ ta (m_X4_word μ).2 := here_ok h

/-! X4.spelt -/
def f_X4_spelt (x : Int32) (y : Int32) (z : Int32) (w : Int32) : Int32 := (if w = 0 then ((27 * (((27 * (x - 96)) + y) - 96)) + z) - 96 else ((27 * (((27 * (((27 * (x - 96)) + y) - 96)) + z) - 96)) + w) - 96)
abbrev rm_X4_spelt : Room := { frames := 0, cells := 0, slots := 0, locals := 0 }
set_option maxRecDepth 100000 in
theorem c_X4_spelt (l : Launch) (x : Int32) (y : Int32) (z : Int32) (w : Int32) :
    Met l yX4_spelt (Cond.code yX4_spelt cX4_spelt 5 (some .int) :: W0) rm_X4_spelt (va_Pc [.int x, .int y, .int z, .int w] (fun _ => True)) (vp_Si (fun r => r = f_X4_spelt x y z w)) 0 0 (fun _ => False) := by
  refine st_gen (cc := cX4_spelt) (maxL := 5) (ret := some .int) (own := RX4) (by decide) rfl (Nat.le_of_ble_eq_true rfl) ?_
  intro p e s m below meth c ls C hPre hl
  obtain ⟨hx, hb, hr, hml, hown, hts, hlk⟩ := C
  have hl : lv_has ls 5 [(0, .int (x)), (1, .int (y)), (2, .int (z)), (3, .int (w))] := hl
  refine lv_bipush (v := 27) hx hb dX4_spelt_0 (by decide) ?_
  refine lv_bipush (v := 27) hx hb dX4_spelt_2 (by decide) ?_
  refine lv_iload_n hx hb dX4_spelt_4 rfl (lv_at hl 0 rfl) ?_
  refine lv_bipush (v := 96) hx hb dX4_spelt_5 (by decide) ?_
  refine lv_isub hx hb dX4_spelt_7 ?_
  refine lv_imul hx hb dX4_spelt_8 ?_
  refine lv_iload_n hx hb dX4_spelt_9 rfl (lv_at hl 1 rfl) ?_
  refine lv_iadd hx hb dX4_spelt_10 ?_
  refine lv_bipush (v := 96) hx hb dX4_spelt_11 (by decide) ?_
  refine lv_isub hx hb dX4_spelt_13 ?_
  refine lv_imul hx hb dX4_spelt_14 ?_
  refine lv_iload_n hx hb dX4_spelt_15 rfl (lv_at hl 2 rfl) ?_
  refine lv_iadd hx hb dX4_spelt_16 ?_
  refine lv_bipush (v := 96) hx hb dX4_spelt_17 (by decide) ?_
  refine lv_isub hx hb dX4_spelt_19 ?_
  refine lv_istore (lv' := [(4, .int (((27 * (((27 * (x - 96)) + y) - 96)) + z) - 96)), (0, .int (x)), (1, .int (y)), (2, .int (z)), (3, .int (w))]) hx hb dX4_spelt_20 hl (by decide) rfl (fun ls hl => ?_)
  refine lv_iload_n hx hb dX4_spelt_22 rfl (lv_at hl 4 rfl) ?_
  refine lv_if_ne (tgt := 31) hx hb dX4_spelt_23 (by decide) (fun c_23 => ?_) (fun c_23 => ?_)
  · refine lv_bipush (v := 27) hx hb dX4_spelt_31 (by decide) ?_
    refine lv_iload hx hb dX4_spelt_33 (lv_at hl 0 rfl) ?_
    refine lv_imul hx hb dX4_spelt_35 ?_
    refine lv_iload_n hx hb dX4_spelt_36 rfl (lv_at hl 4 rfl) ?_
    refine lv_iadd hx hb dX4_spelt_37 ?_
    refine lv_bipush (v := 96) hx hb dX4_spelt_38 (by decide) ?_
    refine lv_isub hx hb dX4_spelt_40 ?_
    exact fin_i hx hb hr hlk (br_n c_23 rfl) dX4_spelt_41
  refine lv_iload hx hb dX4_spelt_26 (lv_at hl 0 rfl) ?_
  refine lv_goto (tgt := 41) hx hb dX4_spelt_28 (by decide) ?_
  exact fin_i hx hb hr hlk (br_p c_23 rfl) dX4_spelt_41
theorem kS_X4_spelt {R : Room} {s : State} {args : Array Value} {own : String} {idx : Nat} {c0 : Cond} (hts : ∀ w ∈ c0 :: W0, w.before args s = true) (hl : Cond.methodLink own idx yX4_spelt ∈ W0) (hR : rm_X4_spelt.frames + 1 ≤ R.frames ∧ 8 + (5 + 11) + rm_X4_spelt.locals ≤ R.locals) : CallB R s args own idx yX4_spelt cX4_spelt 5 (some .int) (Cond.code yX4_spelt cX4_spelt 5 (some .int) :: W0) rm_X4_spelt 0 0 4 ∧ (Cond.static yX4_spelt).before args s = true := va_cwS 4 hts (gdS hl mst_yX4_spelt mini_X4 mc_yX4_spelt) rfl rfl rfl (by decide +kernel) hR

/-! X4.order -/
def m_X4_order (μ : Nat → Nat → Int32) : Int32 × (Nat → Nat → Int32) := (if ((m_X4_word μ).1) = (f_X4_spelt 114 101 110 116) then (0, (m_X4_word μ).2) else (if ((m_X4_word μ).1) = (f_X4_spelt 98 97 99 107) then (1, (m_X4_word μ).2) else (if ((m_X4_word μ).1) = (f_X4_spelt 98 117 121 0) then (2, (m_X4_word μ).2) else (if ((m_X4_word μ).1) = (f_X4_spelt 115 101 108 108) then (3, (m_X4_word μ).2) else (if ((m_X4_word μ).1) = (f_X4_spelt 119 97 105 116) then (4, (m_X4_word μ).2) else ((-1), (m_X4_word μ).2))))))
abbrev rm_X4_order : Room := { frames := 2, cells := 0, slots := 0, locals := 45 }
set_option maxRecDepth 100000 in
theorem c_X4_order (l : Launch) (D : va_G) (cI : ClassId) (o : Nat) (a : Nat → Nat) (μ : Nat → Nat → Int32) (hh : Int64) (bb : Nat) (hot : okT bb μ) :
    Met l yX4_order (Cond.code yX4_order cX4_order 2 (some .int) :: W0) rm_X4_order (va_Pc [.ref o] (moM D cI o a μ hh)) (moQ D cI o a hh (m_X4_order μ)) 0 0 (moA o a) := by
  refine st_gen (cc := cX4_order) (maxL := 2) (ret := some .int) (own := RX4) (by decide) rfl (Nat.le_of_ble_eq_true rfl) ?_
  intro p e s m below meth c ls C hPre hl
  obtain ⟨hx, hb, hr, hml, hown, hts, hlk⟩ := C
  obtain ⟨⟨hP, hK⟩, hD⟩ := hPre
  have hS : va_S (moA o a) s.heap s.heap [] := va_S.rf
  have hl : lv_has ls 2 [(0, .ref (o))] := hl
  have hb1 := (okT_l hot).2
  have hb2 := (okT_a hot).2
  refine lv_aload_n hx hb dX4_order_0 rfl (lv_at hl 0 rfl) ?_
  refine mo_callM (rest := []) hx hb hml hown hts hK hP hD hS (c_X4_word l D cI o a μ hh _ (by with_reducible assumption)) (kV_X4_word hts ml_X4_205 ⟨(Nat.le_of_ble_eq_true rfl), (Nat.le_of_ble_eq_true rfl)⟩) rfl hl.1 rfl (Nat.le_of_ble_eq_true rfl) dX4_order_1 (Nat.zero_le _) (Nat.zero_le _) (fun H locs hP hS => ?_)
  have hk_word := word_ok (μ := μ) (by with_reducible assumption)
  obtain ⟨_, _, _⟩ := word_ok (μ := μ) (by with_reducible assumption)
  refine lv_istore_n (lv' := [(1, .int ((m_X4_word μ).1)), (0, .ref (o))]) hx hb dX4_order_4 rfl hl (by decide) rfl (fun ls hl => ?_)
  refine lv_iload_n hx hb dX4_order_5 rfl (lv_at hl 0 rfl) ?_
  refine lv_bipush (v := 114) hx hb dX4_order_6 (by decide) ?_
  refine lv_bipush (v := 101) hx hb dX4_order_8 (by decide) ?_
  refine lv_bipush (v := 110) hx hb dX4_order_10 (by decide) ?_
  refine lv_bipush (v := 116) hx hb dX4_order_12 (by decide) ?_
  refine cl_S (rest := [.int ((m_X4_word μ).1)]) hx hb hml hown hts (c_X4_spelt l 114 101 110 116) (kS_X4_spelt hts ml_X4_208 ⟨(Nat.le_of_ble_eq_true rfl), (Nat.le_of_ble_eq_true rfl)⟩) rfl hl.1 rfl (Nat.le_of_ble_eq_true rfl) dX4_order_14 (Nat.zero_le _) (Nat.zero_le _) ?_
  refine lv_icmp_ne (tgt := 24) hx hb dX4_order_17 (by decide) (fun c_17 => ?_) (fun c_17 => ?_)
  · refine lv_iload_n hx hb dX4_order_24 rfl (lv_at hl 0 rfl) ?_
    refine lv_bipush (v := 98) hx hb dX4_order_25 (by decide) ?_
    refine lv_bipush (v := 97) hx hb dX4_order_27 (by decide) ?_
    refine lv_bipush (v := 99) hx hb dX4_order_29 (by decide) ?_
    refine lv_bipush (v := 107) hx hb dX4_order_31 (by decide) ?_
    refine cl_S (rest := [.int ((m_X4_word μ).1)]) hx hb hml hown hts (c_X4_spelt l 98 97 99 107) (kS_X4_spelt hts ml_X4_208 ⟨(Nat.le_of_ble_eq_true rfl), (Nat.le_of_ble_eq_true rfl)⟩) rfl hl.1 rfl (Nat.le_of_ble_eq_true rfl) dX4_order_33 (Nat.zero_le _) (Nat.zero_le _) ?_
    refine lv_icmp_ne (tgt := 43) hx hb dX4_order_36 (by decide) (fun c_36 => ?_) (fun c_36 => ?_)
    · refine lv_iload_n hx hb dX4_order_43 rfl (lv_at hl 0 rfl) ?_
      refine lv_bipush (v := 98) hx hb dX4_order_44 (by decide) ?_
      refine lv_bipush (v := 117) hx hb dX4_order_46 (by decide) ?_
      refine lv_bipush (v := 121) hx hb dX4_order_48 (by decide) ?_
      refine lv_iconst (v := 0) hx hb dX4_order_50 (by decide) ?_
      refine cl_S (rest := [.int ((m_X4_word μ).1)]) hx hb hml hown hts (c_X4_spelt l 98 117 121 0) (kS_X4_spelt hts ml_X4_208 ⟨(Nat.le_of_ble_eq_true rfl), (Nat.le_of_ble_eq_true rfl)⟩) rfl hl.1 rfl (Nat.le_of_ble_eq_true rfl) dX4_order_51 (Nat.zero_le _) (Nat.zero_le _) ?_
      refine lv_icmp_ne (tgt := 61) hx hb dX4_order_54 (by decide) (fun c_54 => ?_) (fun c_54 => ?_)
      · refine lv_iload_n hx hb dX4_order_61 rfl (lv_at hl 0 rfl) ?_
        refine lv_bipush (v := 115) hx hb dX4_order_62 (by decide) ?_
        refine lv_bipush (v := 101) hx hb dX4_order_64 (by decide) ?_
        refine lv_bipush (v := 108) hx hb dX4_order_66 (by decide) ?_
        refine lv_bipush (v := 108) hx hb dX4_order_68 (by decide) ?_
        refine cl_S (rest := [.int ((m_X4_word μ).1)]) hx hb hml hown hts (c_X4_spelt l 115 101 108 108) (kS_X4_spelt hts ml_X4_208 ⟨(Nat.le_of_ble_eq_true rfl), (Nat.le_of_ble_eq_true rfl)⟩) rfl hl.1 rfl (Nat.le_of_ble_eq_true rfl) dX4_order_70 (Nat.zero_le _) (Nat.zero_le _) ?_
        refine lv_icmp_ne (tgt := 80) hx hb dX4_order_73 (by decide) (fun c_73 => ?_) (fun c_73 => ?_)
        · refine lv_iload_n hx hb dX4_order_80 rfl (lv_at hl 0 rfl) ?_
          refine lv_bipush (v := 119) hx hb dX4_order_81 (by decide) ?_
          refine lv_bipush (v := 97) hx hb dX4_order_83 (by decide) ?_
          refine lv_bipush (v := 105) hx hb dX4_order_85 (by decide) ?_
          refine lv_bipush (v := 116) hx hb dX4_order_87 (by decide) ?_
          refine cl_S (rest := [.int ((m_X4_word μ).1)]) hx hb hml hown hts (c_X4_spelt l 119 97 105 116) (kS_X4_spelt hts ml_X4_208 ⟨(Nat.le_of_ble_eq_true rfl), (Nat.le_of_ble_eq_true rfl)⟩) rfl hl.1 rfl (Nat.le_of_ble_eq_true rfl) dX4_order_89 (Nat.zero_le _) (Nat.zero_le _) ?_
          refine lv_icmp_ne (tgt := 99) hx hb dX4_order_92 (by decide) (fun c_92 => ?_) (fun c_92 => ?_)
          · refine lv_iconst (v := (-1)) hx hb dX4_order_99 (by decide) ?_
            exact mo_finM hx hb hr hlk hK hP hS (br_n c_17 (br_n c_36 (br_n c_54 (br_n c_73 (br_n c_92 rfl))))) dX4_order_100
          refine lv_iconst (v := 4) hx hb dX4_order_95 (by decide) ?_
          refine lv_goto (tgt := 100) hx hb dX4_order_96 (by decide) ?_
          exact mo_finM hx hb hr hlk hK hP hS (br_n c_17 (br_n c_36 (br_n c_54 (br_n c_73 (br_p c_92 rfl))))) dX4_order_100
        refine lv_iconst (v := 3) hx hb dX4_order_76 (by decide) ?_
        refine lv_goto (tgt := 100) hx hb dX4_order_77 (by decide) ?_
        exact mo_finM hx hb hr hlk hK hP hS (br_n c_17 (br_n c_36 (br_n c_54 (br_p c_73 rfl)))) dX4_order_100
      refine lv_iconst (v := 2) hx hb dX4_order_57 (by decide) ?_
      refine lv_goto (tgt := 100) hx hb dX4_order_58 (by decide) ?_
      exact mo_finM hx hb hr hlk hK hP hS (br_n c_17 (br_n c_36 (br_p c_54 rfl))) dX4_order_100
    refine lv_iconst (v := 1) hx hb dX4_order_39 (by decide) ?_
    refine lv_goto (tgt := 100) hx hb dX4_order_40 (by decide) ?_
    exact mo_finM hx hb hr hlk hK hP hS (br_n c_17 (br_p c_36 rfl)) dX4_order_100
  refine lv_iconst (v := 0) hx hb dX4_order_20 (by decide) ?_
  refine lv_goto (tgt := 100) hx hb dX4_order_21 (by decide) ?_
  exact mo_finM hx hb hr hlk hK hP hS (br_p c_17 rfl) dX4_order_100
theorem kV_X4_order {R : Room} {s : State} {args : Array Value} {own : String} {idx : Nat} {c0 : Cond} (hts : ∀ w ∈ c0 :: W0, w.before args s = true) (hl : Cond.methodLink own idx yX4_order ∈ W0) (hR : rm_X4_order.frames + 1 ≤ R.frames ∧ 8 + (2 + 11) + rm_X4_order.locals ≤ R.locals) : CallW R s args own RX4 idx yX4_order cX4_order 2 (some .int) (Cond.code yX4_order cX4_order 2 (some .int) :: W0) rm_X4_order 0 0 0 := cwV 0 hts (gdV hl mi_yX4_order ms_yX4_order mini_X4 mc_yX4_order) rfl rfl rfl (by decide +kernel) hR

theorem order_s {μ : Nat → Nat → Int32} : (m_X4_order μ).2 = (m_X4_here μ).2 := by
  unfold m_X4_order
  (repeat' split) <;> rfl
theorem order_ok {b : Nat} {μ : Nat → Nat → Int32} (h : okT b μ) : okT b (m_X4_order μ).2 ∧ tl (m_X4_order μ).2 = tl μ ∧ ta μ ≤ ta (m_X4_order μ).2 := by rw [order_s]; exact here_ok h
theorem order_v {μ : Nat → Nat → Int32} : (m_X4_order μ).1 = 0 ∨ (m_X4_order μ).1 = 1 ∨ (m_X4_order μ).1 = 2 ∨ (m_X4_order μ).1 = 3 ∨ (m_X4_order μ).1 = 4 ∨ (m_X4_order μ).1 = (-1) := by
  unfold m_X4_order
  (repeat' split) <;> simp

/-! X4.carries -/
def m_X4_carries (μ : Nat → Nat → Int32) (x : Int32) (y : Int32) (z : Int32) : Int32 × (Nat → Nat → Int32) := (if x = 0 then (if (f_X4_cannotRent μ y z) = 0 then ((m_X4_rents μ (tn y) (tn z)).1, (m_X4_rents μ (tn y) (tn z)).2) else ((f_X4_cannotRent μ y z), μ)) else (if x = 1 then (if (f_X4_cannotGive μ y z) = 0 then ((m_X4_gives μ (tn y) z).1, (m_X4_gives μ (tn y) z).2) else ((f_X4_cannotGive μ y z), μ)) else (if x = 2 then (if (f_X4_cannotBuy μ y z) = 0 then ((m_X4_buys μ (tn y) (tn z)).1, (m_X4_buys μ (tn y) (tn z)).2) else ((f_X4_cannotBuy μ y z), μ)) else (if x = 3 then (if (f_X4_cannotSell μ y) = 0 then ((m_X4_sells μ (tn y)).1, (m_X4_sells μ (tn y)).2) else ((f_X4_cannotSell μ y), μ)) else (if (f_X4_cannotPass μ y) = 0 then ((m_X4_passes μ y).1, (m_X4_passes μ y).2) else ((f_X4_cannotPass μ y), μ))))))
abbrev rm_X4_carries : Room := { frames := 5, cells := 0, slots := 0, locals := 115 }
set_option maxRecDepth 100000 in
theorem c_X4_carries (l : Launch) (D : va_G) (cI : ClassId) (o : Nat) (a : Nat → Nat) (μ : Nat → Nat → Int32) (hh : Int64) (x : Int32) (y : Int32) (z : Int32) (hok : okM μ) :
    Met l yX4_carries (Cond.code yX4_carries cX4_carries 5 (some .int) :: W0) rm_X4_carries (va_Pc [.ref o, .int x, .int y, .int z] (moM D cI o a μ hh)) (moQ D cI o a hh (m_X4_carries μ x y z)) 0 0 (moA o a) := by
  refine st_gen (cc := cX4_carries) (maxL := 5) (ret := some .int) (own := RX4) (by decide) rfl (Nat.le_of_ble_eq_true rfl) ?_
  intro p e s m below meth c ls C hPre hl
  obtain ⟨hx, hb, hr, hml, hown, hts, hlk⟩ := C
  obtain ⟨⟨hP, hK⟩, hD⟩ := hPre
  have hS : va_S (moA o a) s.heap s.heap [] := va_S.rf
  have hl : lv_has ls 5 [(0, .ref (o)), (1, .int (x)), (2, .int (y)), (3, .int (z))] := hl
  obtain ⟨hT6, hC6, hN6, hS5⟩ := okM_b hok
  refine lv_iload_n hx hb dX4_carries_0 rfl (lv_at hl 1 rfl) ?_
  refine lv_if_ne (tgt := 13) hx hb dX4_carries_1 (by decide) (fun c_1 => ?_) (fun c_1 => ?_)
  · refine lv_iload_n hx hb dX4_carries_13 rfl (lv_at hl 1 rfl) ?_
    refine lv_iconst (v := 1) hx hb dX4_carries_14 (by decide) ?_
    refine lv_icmp_ne (tgt := 27) hx hb dX4_carries_15 (by decide) (fun c_15 => ?_) (fun c_15 => ?_)
    · refine lv_iload_n hx hb dX4_carries_27 rfl (lv_at hl 1 rfl) ?_
      refine lv_iconst (v := 2) hx hb dX4_carries_28 (by decide) ?_
      refine lv_icmp_ne (tgt := 41) hx hb dX4_carries_29 (by decide) (fun c_29 => ?_) (fun c_29 => ?_)
      · refine lv_iload_n hx hb dX4_carries_41 rfl (lv_at hl 1 rfl) ?_
        refine lv_iconst (v := 3) hx hb dX4_carries_42 (by decide) ?_
        refine lv_icmp_ne (tgt := 54) hx hb dX4_carries_43 (by decide) (fun c_43 => ?_) (fun c_43 => ?_)
        · refine lv_aload_n hx hb dX4_carries_54 rfl (lv_at hl 0 rfl) ?_
          refine lv_iload_n hx hb dX4_carries_55 rfl (lv_at hl 2 rfl) ?_
          refine mo_call (rest := []) hx hb hml hown hts hK hP (c_X4_cannotPass l D cI o a μ hh y) (kV_X4_cannotPass hts ml_X4_174 ⟨(Nat.le_of_ble_eq_true rfl), (Nat.le_of_ble_eq_true rfl)⟩) rfl hl.1 rfl (Nat.le_of_ble_eq_true rfl) dX4_carries_56 (Nat.zero_le _) (Nat.zero_le _) ?_
          refine lv_istore (lv' := [(4, .int ((f_X4_cannotPass μ y))), (0, .ref (o)), (1, .int (x)), (2, .int (y)), (3, .int (z))]) hx hb dX4_carries_59 hl (by decide) rfl (fun ls hl => ?_)
          refine lv_iload hx hb dX4_carries_61 (lv_at hl 0 rfl) ?_
          refine lv_if_eq (tgt := 69) hx hb dX4_carries_63 (by decide) (fun c_63 => ?_) (fun c_63 => ?_)
          · refine lv_iload_n hx hb dX4_carries_69 rfl (lv_at hl 2 rfl) ?_
            refine lv_if_ne (tgt := 82) hx hb dX4_carries_70 (by decide) (fun _ => ?_) (fun q => absurd q c_1)
            refine lv_iload_n hx hb dX4_carries_82 rfl (lv_at hl 2 rfl) ?_
            refine lv_iconst (v := 1) hx hb dX4_carries_83 (by decide) ?_
            refine lv_icmp_ne (tgt := 96) hx hb dX4_carries_84 (by decide) (fun _ => ?_) (fun q => absurd q c_15)
            refine lv_iload_n hx hb dX4_carries_96 rfl (lv_at hl 2 rfl) ?_
            refine lv_iconst (v := 2) hx hb dX4_carries_97 (by decide) ?_
            refine lv_icmp_ne (tgt := 110) hx hb dX4_carries_98 (by decide) (fun _ => ?_) (fun q => absurd q c_29)
            refine lv_iload_n hx hb dX4_carries_110 rfl (lv_at hl 2 rfl) ?_
            refine lv_iconst (v := 3) hx hb dX4_carries_111 (by decide) ?_
            refine lv_icmp_ne (tgt := 123) hx hb dX4_carries_112 (by decide) (fun _ => ?_) (fun q => absurd q c_43)
            refine lv_aload_n hx hb dX4_carries_123 rfl (lv_at hl 1 rfl) ?_
            refine lv_iload_n hx hb dX4_carries_124 rfl (lv_at hl 3 rfl) ?_
            refine mo_callM (rest := []) hx hb hml hown hts hK hP hD hS (c_X4_passes l D cI o a μ hh y (by with_reducible assumption)) (kV_X4_passes hts ml_X4_177 ⟨(Nat.le_of_ble_eq_true rfl), (Nat.le_of_ble_eq_true rfl)⟩) rfl hl.1 rfl (Nat.le_of_ble_eq_true rfl) dX4_carries_125 (Nat.zero_le _) (Nat.zero_le _) (fun H locs hP hS => ?_)
            exact mo_finM hx hb hr hlk hK hP hS (br_n c_1 (br_n c_15 (br_n c_29 (br_n c_43 (br_p c_63 rfl))))) dX4_carries_128
          refine lv_iload hx hb dX4_carries_66 (lv_at hl 0 rfl) ?_
          exact mo_finM hx hb hr hlk hK hP hS (br_n c_1 (br_n c_15 (br_n c_29 (br_n c_43 (br_n c_63 rfl))))) dX4_carries_68
        refine lv_aload_n hx hb dX4_carries_46 rfl (lv_at hl 0 rfl) ?_
        refine lv_iload_n hx hb dX4_carries_47 rfl (lv_at hl 2 rfl) ?_
        refine mo_call (rest := []) hx hb hml hown hts hK hP (c_X4_cannotSell l D cI o a μ hh y (by with_reducible assumption)) (kV_X4_cannotSell hts ml_X4_137 ⟨(Nat.le_of_ble_eq_true rfl), (Nat.le_of_ble_eq_true rfl)⟩) rfl hl.1 rfl (Nat.le_of_ble_eq_true rfl) dX4_carries_48 (Nat.zero_le _) (Nat.zero_le _) ?_
        refine lv_goto (tgt := 59) hx hb dX4_carries_51 (by decide) ?_
        refine lv_istore (lv' := [(4, .int ((f_X4_cannotSell μ y))), (0, .ref (o)), (1, .int (x)), (2, .int (y)), (3, .int (z))]) hx hb dX4_carries_59 hl (by decide) rfl (fun ls hl => ?_)
        refine lv_iload hx hb dX4_carries_61 (lv_at hl 0 rfl) ?_
        refine lv_if_eq (tgt := 69) hx hb dX4_carries_63 (by decide) (fun c_63 => ?_) (fun c_63 => ?_)
        · have v := cannotSell_ok hok c_63
          have vb := v.1
          refine lv_iload_n hx hb dX4_carries_69 rfl (lv_at hl 2 rfl) ?_
          refine lv_if_ne (tgt := 82) hx hb dX4_carries_70 (by decide) (fun _ => ?_) (fun q => absurd q c_1)
          refine lv_iload_n hx hb dX4_carries_82 rfl (lv_at hl 2 rfl) ?_
          refine lv_iconst (v := 1) hx hb dX4_carries_83 (by decide) ?_
          refine lv_icmp_ne (tgt := 96) hx hb dX4_carries_84 (by decide) (fun _ => ?_) (fun q => absurd q c_15)
          refine lv_iload_n hx hb dX4_carries_96 rfl (lv_at hl 2 rfl) ?_
          refine lv_iconst (v := 2) hx hb dX4_carries_97 (by decide) ?_
          refine lv_icmp_ne (tgt := 110) hx hb dX4_carries_98 (by decide) (fun _ => ?_) (fun q => absurd q c_29)
          refine lv_iload_n hx hb dX4_carries_110 rfl (lv_at hl 2 rfl) ?_
          refine lv_iconst (v := 3) hx hb dX4_carries_111 (by decide) ?_
          refine lv_icmp_ne (tgt := 123) hx hb dX4_carries_112 (by decide) (fun q => absurd c_43 q) (fun _ => ?_)
          refine lv_aload_n hx hb dX4_carries_115 rfl (lv_at hl 1 rfl) ?_
          refine lv_iload_n hx hb dX4_carries_116 rfl (lv_at hl 3 rfl) ?_
          refine mo_callM (rest := []) hx hb hml hown hts hK hP hD hS (c_X4_sells l D cI o a μ hh y (tn y) v.2 (by with_reducible assumption) (by first | with_reducible assumption | omega)) (kV_X4_sells hts ml_X4_140 ⟨(Nat.le_of_ble_eq_true rfl), (Nat.le_of_ble_eq_true rfl)⟩) rfl hl.1 rfl (Nat.le_of_ble_eq_true rfl) dX4_carries_117 (Nat.zero_le _) (Nat.zero_le _) (fun H locs hP hS => ?_)
          refine lv_goto (tgt := 128) hx hb dX4_carries_120 (by decide) ?_
          exact mo_finM hx hb hr hlk hK hP hS (br_n c_1 (br_n c_15 (br_n c_29 (br_p c_43 (br_p c_63 rfl))))) dX4_carries_128
        refine lv_iload hx hb dX4_carries_66 (lv_at hl 0 rfl) ?_
        exact mo_finM hx hb hr hlk hK hP hS (br_n c_1 (br_n c_15 (br_n c_29 (br_p c_43 (br_n c_63 rfl))))) dX4_carries_68
      refine lv_aload_n hx hb dX4_carries_32 rfl (lv_at hl 0 rfl) ?_
      refine lv_iload_n hx hb dX4_carries_33 rfl (lv_at hl 2 rfl) ?_
      refine lv_iload_n hx hb dX4_carries_34 rfl (lv_at hl 3 rfl) ?_
      refine mo_call (rest := []) hx hb hml hown hts hK hP (c_X4_cannotBuy l D cI o a μ hh y z (by with_reducible assumption)) (kV_X4_cannotBuy hts ml_X4_122 ⟨(Nat.le_of_ble_eq_true rfl), (Nat.le_of_ble_eq_true rfl)⟩) rfl hl.1 rfl (Nat.le_of_ble_eq_true rfl) dX4_carries_35 (Nat.zero_le _) (Nat.zero_le _) ?_
      refine lv_goto (tgt := 59) hx hb dX4_carries_38 (by decide) ?_
      refine lv_istore (lv' := [(4, .int ((f_X4_cannotBuy μ y z))), (0, .ref (o)), (1, .int (x)), (2, .int (y)), (3, .int (z))]) hx hb dX4_carries_59 hl (by decide) rfl (fun ls hl => ?_)
      refine lv_iload hx hb dX4_carries_61 (lv_at hl 0 rfl) ?_
      refine lv_if_eq (tgt := 69) hx hb dX4_carries_63 (by decide) (fun c_63 => ?_) (fun c_63 => ?_)
      · obtain ⟨v1, v2, v3⟩ := cannotBuy_ok hok c_63
        have v4 := v1.1
        have v5 := v2.1
        refine lv_iload_n hx hb dX4_carries_69 rfl (lv_at hl 2 rfl) ?_
        refine lv_if_ne (tgt := 82) hx hb dX4_carries_70 (by decide) (fun _ => ?_) (fun q => absurd q c_1)
        refine lv_iload_n hx hb dX4_carries_82 rfl (lv_at hl 2 rfl) ?_
        refine lv_iconst (v := 1) hx hb dX4_carries_83 (by decide) ?_
        refine lv_icmp_ne (tgt := 96) hx hb dX4_carries_84 (by decide) (fun _ => ?_) (fun q => absurd q c_15)
        refine lv_iload_n hx hb dX4_carries_96 rfl (lv_at hl 2 rfl) ?_
        refine lv_iconst (v := 2) hx hb dX4_carries_97 (by decide) ?_
        refine lv_icmp_ne (tgt := 110) hx hb dX4_carries_98 (by decide) (fun q => absurd c_29 q) (fun _ => ?_)
        refine lv_aload_n hx hb dX4_carries_101 rfl (lv_at hl 1 rfl) ?_
        refine lv_iload_n hx hb dX4_carries_102 rfl (lv_at hl 3 rfl) ?_
        refine lv_iload_n hx hb dX4_carries_103 rfl (lv_at hl 4 rfl) ?_
        refine mo_callM (rest := []) hx hb hml hown hts hK hP hD hS (c_X4_buys l D cI o a μ hh y (tn y) v1.2 z (tn z) v2.2 (by with_reducible assumption) (by first | with_reducible assumption | omega) (by first | with_reducible assumption | omega)) (kV_X4_buys hts ml_X4_125 ⟨(Nat.le_of_ble_eq_true rfl), (Nat.le_of_ble_eq_true rfl)⟩) rfl hl.1 rfl (Nat.le_of_ble_eq_true rfl) dX4_carries_104 (Nat.zero_le _) (Nat.zero_le _) (fun H locs hP hS => ?_)
        refine lv_goto (tgt := 128) hx hb dX4_carries_107 (by decide) ?_
        exact mo_finM hx hb hr hlk hK hP hS (br_n c_1 (br_n c_15 (br_p c_29 (br_p c_63 rfl)))) dX4_carries_128
      refine lv_iload hx hb dX4_carries_66 (lv_at hl 0 rfl) ?_
      exact mo_finM hx hb hr hlk hK hP hS (br_n c_1 (br_n c_15 (br_p c_29 (br_n c_63 rfl)))) dX4_carries_68
    refine lv_aload_n hx hb dX4_carries_18 rfl (lv_at hl 0 rfl) ?_
    refine lv_iload_n hx hb dX4_carries_19 rfl (lv_at hl 2 rfl) ?_
    refine lv_iload_n hx hb dX4_carries_20 rfl (lv_at hl 3 rfl) ?_
    refine mo_call (rest := []) hx hb hml hown hts hK hP (c_X4_cannotGive l D cI o a μ hh y z (by with_reducible assumption)) (kV_X4_cannotGive hts ml_X4_167 ⟨(Nat.le_of_ble_eq_true rfl), (Nat.le_of_ble_eq_true rfl)⟩) rfl hl.1 rfl (Nat.le_of_ble_eq_true rfl) dX4_carries_21 (Nat.zero_le _) (Nat.zero_le _) ?_
    refine lv_goto (tgt := 59) hx hb dX4_carries_24 (by decide) ?_
    refine lv_istore (lv' := [(4, .int ((f_X4_cannotGive μ y z))), (0, .ref (o)), (1, .int (x)), (2, .int (y)), (3, .int (z))]) hx hb dX4_carries_59 hl (by decide) rfl (fun ls hl => ?_)
    refine lv_iload hx hb dX4_carries_61 (lv_at hl 0 rfl) ?_
    refine lv_if_eq (tgt := 69) hx hb dX4_carries_63 (by decide) (fun c_63 => ?_) (fun c_63 => ?_)
    · obtain ⟨v1, v2⟩ := cannotGive_ok hok c_63
      have v4 := v1.1
      refine lv_iload_n hx hb dX4_carries_69 rfl (lv_at hl 2 rfl) ?_
      refine lv_if_ne (tgt := 82) hx hb dX4_carries_70 (by decide) (fun _ => ?_) (fun q => absurd q c_1)
      refine lv_iload_n hx hb dX4_carries_82 rfl (lv_at hl 2 rfl) ?_
      refine lv_iconst (v := 1) hx hb dX4_carries_83 (by decide) ?_
      refine lv_icmp_ne (tgt := 96) hx hb dX4_carries_84 (by decide) (fun q => absurd c_15 q) (fun _ => ?_)
      refine lv_aload_n hx hb dX4_carries_87 rfl (lv_at hl 1 rfl) ?_
      refine lv_iload_n hx hb dX4_carries_88 rfl (lv_at hl 3 rfl) ?_
      refine lv_iload_n hx hb dX4_carries_89 rfl (lv_at hl 4 rfl) ?_
      refine mo_callM (rest := []) hx hb hml hown hts hK hP hD hS (c_X4_gives l D cI o a μ hh y (tn y) v1.2 z (by with_reducible assumption) (by first | with_reducible assumption | omega) (by first | with_reducible assumption | omega)) (kV_X4_gives hts ml_X4_170 ⟨(Nat.le_of_ble_eq_true rfl), (Nat.le_of_ble_eq_true rfl)⟩) rfl hl.1 rfl (Nat.le_of_ble_eq_true rfl) dX4_carries_90 (Nat.zero_le _) (Nat.zero_le _) (fun H locs hP hS => ?_)
      refine lv_goto (tgt := 128) hx hb dX4_carries_93 (by decide) ?_
      exact mo_finM hx hb hr hlk hK hP hS (br_n c_1 (br_p c_15 (br_p c_63 rfl))) dX4_carries_128
    refine lv_iload hx hb dX4_carries_66 (lv_at hl 0 rfl) ?_
    exact mo_finM hx hb hr hlk hK hP hS (br_n c_1 (br_p c_15 (br_n c_63 rfl))) dX4_carries_68
  refine lv_aload_n hx hb dX4_carries_4 rfl (lv_at hl 0 rfl) ?_
  refine lv_iload_n hx hb dX4_carries_5 rfl (lv_at hl 2 rfl) ?_
  refine lv_iload_n hx hb dX4_carries_6 rfl (lv_at hl 3 rfl) ?_
  refine mo_call (rest := []) hx hb hml hown hts hK hP (c_X4_cannotRent l D cI o a μ hh y z (by with_reducible assumption)) (kV_X4_cannotRent hts ml_X4_155 ⟨(Nat.le_of_ble_eq_true rfl), (Nat.le_of_ble_eq_true rfl)⟩) rfl hl.1 rfl (Nat.le_of_ble_eq_true rfl) dX4_carries_7 (Nat.zero_le _) (Nat.zero_le _) ?_
  refine lv_goto (tgt := 59) hx hb dX4_carries_10 (by decide) ?_
  refine lv_istore (lv' := [(4, .int ((f_X4_cannotRent μ y z))), (0, .ref (o)), (1, .int (x)), (2, .int (y)), (3, .int (z))]) hx hb dX4_carries_59 hl (by decide) rfl (fun ls hl => ?_)
  refine lv_iload hx hb dX4_carries_61 (lv_at hl 0 rfl) ?_
  refine lv_if_eq (tgt := 69) hx hb dX4_carries_63 (by decide) (fun c_63 => ?_) (fun c_63 => ?_)
  · obtain ⟨v1, v2, v3⟩ := cannotRent_ok hok c_63
    have v4 := v1.1
    have v5 := v2.1
    refine lv_iload_n hx hb dX4_carries_69 rfl (lv_at hl 2 rfl) ?_
    refine lv_if_ne (tgt := 82) hx hb dX4_carries_70 (by decide) (fun q => absurd c_1 q) (fun _ => ?_)
    refine lv_aload_n hx hb dX4_carries_73 rfl (lv_at hl 1 rfl) ?_
    refine lv_iload_n hx hb dX4_carries_74 rfl (lv_at hl 3 rfl) ?_
    refine lv_iload_n hx hb dX4_carries_75 rfl (lv_at hl 4 rfl) ?_
    refine mo_callM (rest := []) hx hb hml hown hts hK hP hD hS (c_X4_rents l D cI o a μ hh y (tn y) v1.2 z (tn z) v2.2 (by with_reducible assumption) (by first | with_reducible assumption | omega) (by first | with_reducible assumption | omega) (by first | with_reducible assumption | omega)) (kV_X4_rents hts ml_X4_158 ⟨(Nat.le_of_ble_eq_true rfl), (Nat.le_of_ble_eq_true rfl)⟩) rfl hl.1 rfl (Nat.le_of_ble_eq_true rfl) dX4_carries_76 (Nat.zero_le _) (Nat.zero_le _) (fun H locs hP hS => ?_)
    refine lv_goto (tgt := 128) hx hb dX4_carries_79 (by decide) ?_
    exact mo_finM hx hb hr hlk hK hP hS (br_p c_1 (br_p c_63 rfl)) dX4_carries_128
  refine lv_iload hx hb dX4_carries_66 (lv_at hl 0 rfl) ?_
  exact mo_finM hx hb hr hlk hK hP hS (br_p c_1 (br_n c_63 rfl)) dX4_carries_68
theorem kV_X4_carries {R : Room} {s : State} {args : Array Value} {own : String} {idx : Nat} {c0 : Cond} (hts : ∀ w ∈ c0 :: W0, w.before args s = true) (hl : Cond.methodLink own idx yX4_carries ∈ W0) (hR : rm_X4_carries.frames + 1 ≤ R.frames ∧ 8 + (5 + 11) + rm_X4_carries.locals ≤ R.locals) : CallW R s args own RX4 idx yX4_carries cX4_carries 5 (some .int) (Cond.code yX4_carries cX4_carries 5 (some .int) :: W0) rm_X4_carries 0 0 3 := cwV 3 hts (gdV hl mi_yX4_carries ms_yX4_carries mini_X4 mc_yX4_carries) rfl rfl rfl (by decide +kernel) hR

theorem carries_ok {μ : Nat → Nat → Int32} (h : okM μ) (x y z : Int32) : okM (m_X4_carries μ x y z).2 := by
  unfold m_X4_carries
  (repeat' split) <;> first
    | exact h
    | exact rents_ok h (cannotRent_ok h (by with_reducible assumption)).1.1
    | exact gives_ok h (cannotGive_ok h (by with_reducible assumption)).1.1 (cannotGive_ok h (by with_reducible assumption)).2
    | exact buys_ok h (by have := (cannotBuy_ok h (by with_reducible assumption)).1.1; have := okM_b h; omega) (cannotBuy_ok h (by with_reducible assumption)).2.2
    | exact sells_ok h _
    | exact passes_ok h _
theorem carries_f {μ : Nat → Nat → Int32} {f : Nat} (hf : f ≠ 0) (x y z : Int32) : (m_X4_carries μ x y z).2 f = μ f := by
  unfold m_X4_carries
  (repeat' split) <;> first
    | rfl
    | exact rents_f hf
    | exact gives_f hf
    | exact buys_f hf
    | exact sells_f hf
    | exact passes_f hf

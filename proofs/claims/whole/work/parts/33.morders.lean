abbrev MS : Type := Int32 × (Nat → Nat → Int32)
theorem ite_ind {α : Type} (P : α → Prop) {c : Prop} [Decidable c] {a b : α} (ha : c → P a) (hb : ¬ c → P b) : P (if c then a else b) := by
  by_cases h : c
  · rw [if_pos h]; exact ha h
  · rw [if_neg h]; exact hb h
/-! ===== the model's orders ===== -/
theorem at_add {b b' : Nat} {ω : Nat → Nat → Int32} (h : okT b ω) (d : Nat) (v : Int32) (hv : v = ω 6 0 + nI d) (hb : ta ω + d ≤ b') (hb' : 100 ≤ b' ∧ b' ≤ 1000) : okT b' (shS ω 6 v) ∧ ta (shS ω 6 v) = ta ω + d ∧ tl (shS ω 6 v) = tl ω :=
  okT_mk (μ' := shS ω 6 v) h rfl (ta ω + d) (by rw [shS_eq, hv, (okT_a h).1, nI_add]) hb hb'
theorem okT_0 {b : Nat} {μ μ' : Nat → Nat → Int32} (h : μ 5 0 = nI (tl μ) ∧ tl μ ≤ 100) (e5 : μ' 5 0 = μ 5 0) (e6 : μ' 6 0 = 0) (hb : 100 ≤ b ∧ b ≤ 1000) : okT b μ' := by
  have e2 : tl μ' = tl μ := congrArg tn e5
  have e3 : ta μ' = 0 := by unfold ta; rw [e6]; rfl
  exact ⟨⟨by rw [e2, e5]; exact h.1, by rw [e2]; exact h.2⟩, ⟨by rw [e3, e6]; rfl, by omega⟩, hb⟩
theorem okT_up {b b' : Nat} {μ : Nat → Nat → Int32} (h : okT b μ) (hb : b ≤ b') (hb' : b' ≤ 1000) : okT b' μ := ⟨h.1, ⟨h.2.1.1, by have := h.2.1.2; omega⟩, by have := h.2.2; omega⟩
theorem h06 : (0 : Nat) ≠ 6 := by decide
theorem h07 : (0 : Nat) ≠ 7 := by decide
theorem h16 : (1 : Nat) ≠ 6 := by decide
theorem h17 : (1 : Nat) ≠ 7 := by decide
theorem okM_order {μ : Nat → Nat → Int32} (h : okM μ) : okM (m_X4_order μ).2 := by rw [order_s]; exact okM_eq h (here_f (by decide)) (here_f (by decide))
theorem okM_reads {μ : Nat → Nat → Int32} (h : okM μ) : okM (m_X4_reads μ).2 := okM_eq h (reads_f h06 h07) (reads_f h16 h17)
theorem okM_here {μ : Nat → Nat → Int32} (h : okM μ) : okM (m_X4_here μ).2 := okM_eq h (here_f (by decide)) (here_f (by decide))
theorem okM_shS {μ : Nat → Nat → Int32} (h : okM μ) {f : Nat} (hf : 2 ≤ f) (v : Int32) : okM (shS μ f v) := okM_eq h (shS_f (by omega)) (shS_f (by omega))
theorem saves_f {μ : Nat → Nat → Int32} {f : Nat} (h0 : f ≠ 0) (h1 : f ≠ 1) : s_X4_saves μ f = μ f := by
  unfold s_X4_saves
  (repeat' split) <;> rw [copies_o h0, shS_f h1, shS_f h1, saves_g h0]
/-- what reading an order keeps -/
def rdP (μ ν : Nat → Nat → Int32) : Prop := okM ν ∧ okT 105 ν ∧ tl ν = tl μ ∧ ta μ ≤ ta ν ∧ ν 5 = μ 5 ∧ ν 4 = μ 4
def rdZ (μ : Nat → Nat → Int32) (z : MS) : Prop := rdP μ z.2
theorem rdI {μ ν : Nat → Nat → Int32} {v : Int32} (h : rdP μ ν) : rdZ μ (v, ν) := h
def zB (z : MS) : Prop := z.1 = 0 ∨ z.1 = 1
theorem zB0 {ν : Nat → Nat → Int32} : zB (0, ν) := Or.inl rfl
theorem zB1 {ν : Nat → Nat → Int32} : zB (1, ν) := Or.inr rfl
theorem rdP_1 {μ ν : Nat → Nat → Int32} (h : rdP μ ν) : okM ν := h.1
theorem rdP_2 {μ ν : Nat → Nat → Int32} (h : rdP μ ν) : okT 105 ν := h.2.1
theorem rdP_reads {μ ν : Nat → Nat → Int32} (h : rdP μ ν) : rdP μ (m_X4_reads ν).2 := by
  obtain ⟨h1, h2, h3, h4, h5, h6⟩ := h
  obtain ⟨k1, k2, k3⟩ := reads_ok h2
  exact ⟨okM_reads h1, k1, k2.trans h3, Nat.le_trans h4 k3, (reads_f (by decide) (by decide)).trans h5, (reads_f (by decide) (by decide)).trans h6⟩
theorem rdP_S {μ ν : Nat → Nat → Int32} (h : rdP μ ν) {f : Nat} (hf : 7 ≤ f) (v : Int32) : rdP μ (shS ν f v) := by
  obtain ⟨h1, h2, h3, h4, h5, h6⟩ := h
  have r := okT_mk (b' := 105) h2 (μ' := shS ν f v) (by rw [shS_f (by omega)]) (ta ν) (by rw [shS_f (by omega)]; exact (okT_a h2).1) (okT_a h2).2.1 (by omega)
  exact ⟨okM_shS h1 (by omega) v, r.1, r.2.2.trans h3, by rw [r.2.1]; exact h4, (shS_f (by omega)).trans h5, (shS_f (by omega)).trans h6⟩
theorem rdP_carry {μ ν : Nat → Nat → Int32} (h : rdP μ ν) (x y z : Int32) : rdP μ (m_X4_carries ν x y z).2 := by
  obtain ⟨h1, h2, h3, h4, h5, h6⟩ := h
  have e5 := carries_f (μ := ν) (f := 5) (by decide) x y z
  have e6 := carries_f (μ := ν) (f := 6) (by decide) x y z
  have r := okT_mk (b' := 105) h2 (μ' := (m_X4_carries ν x y z).2) (by rw [e5]) (ta ν) (by rw [e6]; exact (okT_a h2).1) (okT_a h2).2.1 (by omega)
  exact ⟨carries_ok h1 x y z, r.1, r.2.2.trans h3, by rw [r.2.1]; exact h4, e5.trans h5, (carries_f (by decide) x y z).trans h6⟩
theorem rdP_order {μ : Nat → Nat → Int32} (hok : okM μ) (hot : okT 101 μ) : rdP μ (m_X4_order μ).2 := by
  obtain ⟨k1, k2, k3⟩ := order_ok hot
  exact ⟨okM_order hok, okT_up k1 (by omega) (by omega), k2, k3, by rw [order_s]; exact here_f (by decide), by rw [order_s]; exact here_f (by decide)⟩
theorem rdP_at {μ : Nat → Nat → Int32} (hok : okM μ) (hot : okT 101 μ) (d : Nat) (hd : d ≤ 4) (v : Int32) (hv : v = (m_X4_order μ).2 6 0 + nI d) : rdP μ (shS (m_X4_order μ).2 6 v) := by
  obtain ⟨k1, k2, k3⟩ := order_ok hot
  have k4 := (okT_a k1).2.1
  obtain ⟨r1, r2, r3⟩ := at_add (b' := 105) k1 d v hv (by omega) (by omega)
  exact ⟨okM_shS (okM_order hok) (by omega) v, r1, r3.trans k2, by omega, (shS_f (by decide)).trans (by rw [order_s]; exact here_f (by decide)), (shS_f (by decide)).trans (by rw [order_s]; exact here_f (by decide))⟩

/-! X4.readsOrder -/
def j_X4_readsOrder_59 (μ : Nat → Nat → Int32) (x : Int32) (y2 : Int32) (y3 : Int32) (ω : Nat → Nat → Int32) : Int32 × (Nat → Nat → Int32) := (if x = 0 then (1, ω) else (if (ω 9 0) = 0 then (1, ω) else (if ((m_X4_carries ω y2 y3 (ω 7 0)).1) < 0 then (1, (shS (shS ((m_X4_carries ω y2 y3 (ω 7 0)).2) 9 0) 8 ((((m_X4_carries ω y2 y3 (ω 7 0)).2) 8 0) + 0))) else (1, (shS (shS ((m_X4_carries ω y2 y3 (ω 7 0)).2) 9 1) 8 ((((m_X4_carries ω y2 y3 (ω 7 0)).2) 8 0) + 1))))))
def j_X4_readsOrder_31 (μ : Nat → Nat → Int32) (x : Int32) (y2 : Int32) (ω : Nat → Nat → Int32) : Int32 × (Nat → Nat → Int32) := (if ((m_X4_reads ω).1) = 0 then (0, (m_X4_reads ω).2) else (if 3 ≤ y2 then j_X4_readsOrder_59 μ x y2 (((m_X4_reads ω).2) 7 0) ((m_X4_reads ω).2) else (if ((m_X4_reads ((m_X4_reads ω).2)).1) = 0 then (0, (m_X4_reads ((m_X4_reads ω).2)).2) else j_X4_readsOrder_59 μ x y2 (((m_X4_reads ω).2) 7 0) ((m_X4_reads ((m_X4_reads ω).2)).2))))
def m_X4_readsOrder (μ : Nat → Nat → Int32) (x : Int32) : Int32 × (Nat → Nat → Int32) := (if ((m_X4_order μ).1) = (-1) then (0, (m_X4_order μ).2) else (if ((m_X4_order μ).1) = 2 then j_X4_readsOrder_31 μ x ((m_X4_order μ).1) (shS ((m_X4_order μ).2) 6 ((((m_X4_order μ).2) 6 0) + 3)) else j_X4_readsOrder_31 μ x ((m_X4_order μ).1) (shS ((m_X4_order μ).2) 6 ((((m_X4_order μ).2) 6 0) + 4))))
abbrev rm_X4_readsOrder : Room := { frames := 6, cells := 0, slots := 0, locals := 139 }
set_option maxRecDepth 100000 in
theorem c_X4_readsOrder (l : Launch) (D : va_G) (cI : ClassId) (o : Nat) (a : Nat → Nat) (μ : Nat → Nat → Int32) (hh : Int64) (x : Int32) (hok : okM μ) (hot : okT 101 μ) :
    Met l yX4_readsOrder (Cond.code yX4_readsOrder cX4_readsOrder 4 (some .boolean) :: W0) rm_X4_readsOrder (va_Pc [.ref o, .int x] (moM D cI o a μ hh)) (moQ D cI o a hh (m_X4_readsOrder μ x)) 0 0 (moA o a) := by
  refine st_gen (cc := cX4_readsOrder) (maxL := 4) (ret := some .boolean) (own := RX4) (by decide) rfl (Nat.le_of_ble_eq_true rfl) ?_
  intro p e s m below meth c ls C hPre hl
  obtain ⟨hx, hb, hr, hml, hown, hts, hlk⟩ := C
  obtain ⟨⟨hP, hK⟩, hD⟩ := hPre
  have hS : va_S (moA o a) s.heap s.heap [] := va_S.rf
  have hl : lv_has ls 4 [(0, .ref (o)), (1, .int (x))] := hl
  have hb1 := (okT_l hot).2
  have hb2 := (okT_a hot).2
  have J_59 : ∀ (y2 : Int32) (y3 : Int32) (ω : Nat → Nat → Int32), rdP μ ω → j_X4_readsOrder_59 μ x y2 y3 ω = m_X4_readsOrder μ x → ∀ (H : Heap) (locs : List Loc), va_P D vwCl (moW cI o a ω hh) H → va_S (moA o a) s.heap H locs → ∀ ls, lv_has ls 4 [(0, .ref (o)), (1, .int (x)), (2, .int (y2)), (3, .int (y3))] → W p l e rm_X4_readsOrder s m (([.ref (o), .int (x)] : List Value).toArray) below meth c H locs 0 0 (MQ below (moQ D cI o a hh (m_X4_readsOrder μ x)) ([.ref (o), .int (x)] : List Value).toArray s 0 0 (moA o a)) (F0 m 59 ls []) := by
    intro y2 y3 ω hrp hj_59 H locs hP hS ls hl
    have hokC := rdP_1 hrp
    refine lv_iload_n hx hb dX4_readsOrder_59 rfl (lv_at hl 1 rfl) ?_
    refine lv_if_eq (tgt := 113) hx hb dX4_readsOrder_60 (by decide) (fun c_60 => ?_) (fun c_60 => ?_)
    · refine lv_iconst (v := 1) hx hb dX4_readsOrder_113 (by decide) ?_
      exact mo_finMz hx hb hr hlk hK hP hS (Or.inr rfl) (((br_p c_60 rfl) : _ = j_X4_readsOrder_59 μ x y2 y3 ω).trans hj_59) dX4_readsOrder_114
    refine lv_aload_n hx hb dX4_readsOrder_63 rfl (lv_at hl 0 rfl) ?_
    refine mo_g9 hx hb hts hown hK hP (v := ω 9 0) rfl dX4_readsOrder_64 ?_
    refine lv_if_eq (tgt := 113) hx hb dX4_readsOrder_67 (by decide) (fun c_67 => ?_) (fun c_67 => ?_)
    · refine lv_iconst (v := 1) hx hb dX4_readsOrder_113 (by decide) ?_
      exact mo_finMz hx hb hr hlk hK hP hS (Or.inr rfl) (((br_n c_60 (br_p c_67 rfl)) : _ = j_X4_readsOrder_59 μ x y2 y3 ω).trans hj_59) dX4_readsOrder_114
    refine lv_aload_n hx hb dX4_readsOrder_70 rfl (lv_at hl 0 rfl) ?_
    refine lv_aload_n hx hb dX4_readsOrder_71 rfl (lv_at hl 0 rfl) ?_
    refine lv_iload_n hx hb dX4_readsOrder_72 rfl (lv_at hl 2 rfl) ?_
    refine lv_iload_n hx hb dX4_readsOrder_73 rfl (lv_at hl 3 rfl) ?_
    refine lv_aload_n hx hb dX4_readsOrder_74 rfl (lv_at hl 0 rfl) ?_
    refine mo_g7 hx hb hts hown hK hP (v := ω 7 0) rfl dX4_readsOrder_75 ?_
    refine mo_callM (rest := [.ref (o)]) hx hb hml hown hts hK hP hD hS (c_X4_carries l D cI o a ω hh y2 y3 (ω 7 0) (by with_reducible assumption)) (kV_X4_carries hts ml_X4_223 ⟨(Nat.le_of_ble_eq_true rfl), (Nat.le_of_ble_eq_true rfl)⟩) rfl hl.1 rfl (Nat.le_of_ble_eq_true rfl) dX4_readsOrder_78 (Nat.zero_le _) (Nat.zero_le _) (fun H locs hP hS => ?_)
    refine lv_if_lt (tgt := 88) hx hb dX4_readsOrder_81 (by decide) (fun c_81 => ?_) (fun c_81 => ?_)
    · refine lv_iconst (v := 0) hx hb dX4_readsOrder_88 (by decide) ?_
      refine mo_p9 hx hb hts hown hK hP hD hS (Or.inl rfl) dX4_readsOrder_89 (fun H locs hP hS => ?_)
      refine lv_aload_n hx hb dX4_readsOrder_92 rfl (lv_at hl 0 rfl) ?_
      refine lv_dup hx hb dX4_readsOrder_93 rfl ?_
      refine mo_g8 hx hb hts hown hK hP (v := ((m_X4_carries ω y2 y3 (ω 7 0)).2) 8 0) (congrFun (shS_f (σ := ((m_X4_carries ω y2 y3 (ω 7 0)).2)) (f := 9) (f' := 8) (by decide)) 0) dX4_readsOrder_94 ?_
      refine lv_aload_n hx hb dX4_readsOrder_97 rfl (lv_at hl 0 rfl) ?_
      refine mo_g9 hx hb hts hown hK hP (v := 0) shS_eq dX4_readsOrder_98 ?_
      refine lv_if_eq (tgt := 108) hx hb dX4_readsOrder_101 (by decide) (fun _ => ?_) (fun q => absurd rfl q)
      refine lv_iconst (v := 0) hx hb dX4_readsOrder_108 (by decide) ?_
      refine lv_iadd hx hb dX4_readsOrder_109 ?_
      refine mo_p8 hx hb hts hown hK hP hD hS dX4_readsOrder_110 (fun H locs hP hS => ?_)
      refine lv_iconst (v := 1) hx hb dX4_readsOrder_113 (by decide) ?_
      exact mo_finMz hx hb hr hlk hK hP hS (Or.inr rfl) (((br_n c_60 (br_n c_67 (br_p c_81 rfl))) : _ = j_X4_readsOrder_59 μ x y2 y3 ω).trans hj_59) dX4_readsOrder_114
    refine lv_iconst (v := 1) hx hb dX4_readsOrder_84 (by decide) ?_
    refine lv_goto (tgt := 89) hx hb dX4_readsOrder_85 (by decide) ?_
    refine mo_p9 hx hb hts hown hK hP hD hS (Or.inr rfl) dX4_readsOrder_89 (fun H locs hP hS => ?_)
    refine lv_aload_n hx hb dX4_readsOrder_92 rfl (lv_at hl 0 rfl) ?_
    refine lv_dup hx hb dX4_readsOrder_93 rfl ?_
    refine mo_g8 hx hb hts hown hK hP (v := ((m_X4_carries ω y2 y3 (ω 7 0)).2) 8 0) (congrFun (shS_f (σ := ((m_X4_carries ω y2 y3 (ω 7 0)).2)) (f := 9) (f' := 8) (by decide)) 0) dX4_readsOrder_94 ?_
    refine lv_aload_n hx hb dX4_readsOrder_97 rfl (lv_at hl 0 rfl) ?_
    refine mo_g9 hx hb hts hown hK hP (v := 1) shS_eq dX4_readsOrder_98 ?_
    refine lv_if_eq (tgt := 108) hx hb dX4_readsOrder_101 (by decide) (fun q => absurd q (by decide)) (fun _ => ?_)
    refine lv_iconst (v := 1) hx hb dX4_readsOrder_104 (by decide) ?_
    refine lv_goto (tgt := 109) hx hb dX4_readsOrder_105 (by decide) ?_
    refine lv_iadd hx hb dX4_readsOrder_109 ?_
    refine mo_p8 hx hb hts hown hK hP hD hS dX4_readsOrder_110 (fun H locs hP hS => ?_)
    refine lv_iconst (v := 1) hx hb dX4_readsOrder_113 (by decide) ?_
    exact mo_finMz hx hb hr hlk hK hP hS (Or.inr rfl) (((br_n c_60 (br_n c_67 (br_n c_81 rfl))) : _ = j_X4_readsOrder_59 μ x y2 y3 ω).trans hj_59) dX4_readsOrder_114
  have J_31 : ∀ (y2 : Int32) (ω : Nat → Nat → Int32), rdP μ ω → j_X4_readsOrder_31 μ x y2 ω = m_X4_readsOrder μ x → ∀ (H : Heap) (locs : List Loc), va_P D vwCl (moW cI o a ω hh) H → va_S (moA o a) s.heap H locs → ∀ ls, lv_has ls 4 [(0, .ref (o)), (1, .int (x)), (2, .int (y2))] → W p l e rm_X4_readsOrder s m (([.ref (o), .int (x)] : List Value).toArray) below meth c H locs 0 0 (MQ below (moQ D cI o a hh (m_X4_readsOrder μ x)) ([.ref (o), .int (x)] : List Value).toArray s 0 0 (moA o a)) (F0 m 31 ls []) := by
    intro y2 ω hrq hj_31 H locs hP hS ls hl
    have hotB := rdP_2 hrq
    refine lv_aload_n hx hb dX4_readsOrder_31 rfl (lv_at hl 0 rfl) ?_
    refine mo_callM (rest := []) hx hb hml hown hts hK hP hD hS (c_X4_reads l D cI o a ω hh _ (by with_reducible assumption)) (kV_X4_reads hts ml_X4_215 ⟨(Nat.le_of_ble_eq_true rfl), (Nat.le_of_ble_eq_true rfl)⟩) rfl hl.1 rfl (Nat.le_of_ble_eq_true rfl) dX4_readsOrder_32 (Nat.zero_le _) (Nat.zero_le _) (fun H locs hP hS => ?_)
    have hk_reads := reads_ok (μ := ω) (by with_reducible assumption)
    obtain ⟨_, _, _⟩ := reads_ok (μ := ω) (by with_reducible assumption)
    refine lv_if_ne (tgt := 40) hx hb dX4_readsOrder_35 (by decide) (fun c_35 => ?_) (fun c_35 => ?_)
    · refine lv_aload_n hx hb dX4_readsOrder_40 rfl (lv_at hl 0 rfl) ?_
      refine mo_g7 hx hb hts hown hK hP (v := ((m_X4_reads ω).2) 7 0) rfl dX4_readsOrder_41 ?_
      refine lv_istore_n (lv' := [(3, .int (((m_X4_reads ω).2) 7 0)), (0, .ref (o)), (1, .int (x)), (2, .int (y2))]) hx hb dX4_readsOrder_44 rfl hl (by decide) rfl (fun ls hl => ?_)
      refine lv_iload_n hx hb dX4_readsOrder_45 rfl (lv_at hl 3 rfl) ?_
      refine lv_iconst (v := 3) hx hb dX4_readsOrder_46 (by decide) ?_
      refine lv_icmp_ge (tgt := 59) hx hb dX4_readsOrder_47 (by decide) (fun c_47 => ?_) (fun c_47 => ?_)
      · exact J_59 y2 (((m_X4_reads ω).2) 7 0) ((m_X4_reads ω).2) (rdP_reads hrq) ((((br_n c_35 (br_p c_47 rfl)) : _ = j_X4_readsOrder_31 μ x y2 ω).trans hj_31) : j_X4_readsOrder_59 μ x y2 (((m_X4_reads ω).2) 7 0) ((m_X4_reads ω).2) = m_X4_readsOrder μ x) _ _ hP hS ls (lv_sub hl [1, 2, 3, 0] rfl)
      refine lv_aload_n hx hb dX4_readsOrder_50 rfl (lv_at hl 1 rfl) ?_
      refine mo_callM (rest := []) hx hb hml hown hts hK hP hD hS (c_X4_reads l D cI o a ((m_X4_reads ω).2) hh _ (by with_reducible assumption)) (kV_X4_reads hts ml_X4_215 ⟨(Nat.le_of_ble_eq_true rfl), (Nat.le_of_ble_eq_true rfl)⟩) rfl hl.1 rfl (Nat.le_of_ble_eq_true rfl) dX4_readsOrder_51 (Nat.zero_le _) (Nat.zero_le _) (fun H locs hP hS => ?_)
      have hk_reads := reads_ok (μ := ((m_X4_reads ω).2)) (by with_reducible assumption)
      obtain ⟨_, _, _⟩ := reads_ok (μ := ((m_X4_reads ω).2)) (by with_reducible assumption)
      refine lv_if_ne (tgt := 59) hx hb dX4_readsOrder_54 (by decide) (fun c_54 => ?_) (fun c_54 => ?_)
      · exact J_59 y2 (((m_X4_reads ω).2) 7 0) ((m_X4_reads ((m_X4_reads ω).2)).2) (rdP_reads (rdP_reads hrq)) ((((br_n c_35 (br_n c_47 (br_n c_54 rfl))) : _ = j_X4_readsOrder_31 μ x y2 ω).trans hj_31) : j_X4_readsOrder_59 μ x y2 (((m_X4_reads ω).2) 7 0) ((m_X4_reads ((m_X4_reads ω).2)).2) = m_X4_readsOrder μ x) _ _ hP hS ls (lv_sub hl [1, 2, 3, 0] rfl)
      refine lv_iconst (v := 0) hx hb dX4_readsOrder_57 (by decide) ?_
      exact mo_finMz hx hb hr hlk hK hP hS (Or.inl rfl) (((br_n c_35 (br_n c_47 (br_p c_54 rfl))) : _ = j_X4_readsOrder_31 μ x y2 ω).trans hj_31) dX4_readsOrder_58
    refine lv_iconst (v := 0) hx hb dX4_readsOrder_38 (by decide) ?_
    exact mo_finMz hx hb hr hlk hK hP hS (Or.inl rfl) (((br_p c_35 rfl) : _ = j_X4_readsOrder_31 μ x y2 ω).trans hj_31) dX4_readsOrder_39
  refine lv_aload_n hx hb dX4_readsOrder_0 rfl (lv_at hl 0 rfl) ?_
  refine mo_callM (rest := []) hx hb hml hown hts hK hP hD hS (c_X4_order l D cI o a μ hh _ (by with_reducible assumption)) (kV_X4_order hts ml_X4_212 ⟨(Nat.le_of_ble_eq_true rfl), (Nat.le_of_ble_eq_true rfl)⟩) rfl hl.1 rfl (Nat.le_of_ble_eq_true rfl) dX4_readsOrder_1 (Nat.zero_le _) (Nat.zero_le _) (fun H locs hP hS => ?_)
  have hk_order := order_ok (μ := μ) (by with_reducible assumption)
  obtain ⟨_, _, _⟩ := order_ok (μ := μ) (by with_reducible assumption)
  refine lv_istore_n (lv' := [(2, .int ((m_X4_order μ).1)), (0, .ref (o)), (1, .int (x))]) hx hb dX4_readsOrder_4 rfl hl (by decide) rfl (fun ls hl => ?_)
  refine lv_iload_n hx hb dX4_readsOrder_5 rfl (lv_at hl 0 rfl) ?_
  refine lv_iconst (v := (-1)) hx hb dX4_readsOrder_6 (by decide) ?_
  refine lv_icmp_ne (tgt := 12) hx hb dX4_readsOrder_7 (by decide) (fun c_7 => ?_) (fun c_7 => ?_)
  · refine lv_aload_n hx hb dX4_readsOrder_12 rfl (lv_at hl 1 rfl) ?_
    refine lv_dup hx hb dX4_readsOrder_13 rfl ?_
    refine mo_g6 hx hb hts hown hK hP (v := ((m_X4_order μ).2) 6 0) rfl dX4_readsOrder_14 ?_
    refine lv_iload_n hx hb dX4_readsOrder_17 rfl (lv_at hl 0 rfl) ?_
    refine lv_iconst (v := 2) hx hb dX4_readsOrder_18 (by decide) ?_
    refine lv_icmp_ne (tgt := 26) hx hb dX4_readsOrder_19 (by decide) (fun c_19 => ?_) (fun c_19 => ?_)
    · refine lv_iconst (v := 4) hx hb dX4_readsOrder_26 (by decide) ?_
      refine lv_iadd hx hb dX4_readsOrder_27 ?_
      refine mo_p6 hx hb hts hown hK hP hD hS dX4_readsOrder_28 (fun H locs hP hS => ?_)
      exact J_31 ((m_X4_order μ).1) (shS ((m_X4_order μ).2) 6 ((((m_X4_order μ).2) 6 0) + 4)) (rdP_at hok hot 4 (by omega) (((m_X4_order μ).2 6 0) + 4) rfl) ((br_n c_7 (br_n c_19 rfl)) : j_X4_readsOrder_31 μ x ((m_X4_order μ).1) (shS ((m_X4_order μ).2) 6 ((((m_X4_order μ).2) 6 0) + 4)) = m_X4_readsOrder μ x) _ _ hP hS ls (lv_sub hl [1, 2, 0] rfl)
    refine lv_iconst (v := 3) hx hb dX4_readsOrder_22 (by decide) ?_
    refine lv_goto (tgt := 27) hx hb dX4_readsOrder_23 (by decide) ?_
    refine lv_iadd hx hb dX4_readsOrder_27 ?_
    refine mo_p6 hx hb hts hown hK hP hD hS dX4_readsOrder_28 (fun H locs hP hS => ?_)
    exact J_31 ((m_X4_order μ).1) (shS ((m_X4_order μ).2) 6 ((((m_X4_order μ).2) 6 0) + 3)) (rdP_at hok hot 3 (by omega) (((m_X4_order μ).2 6 0) + 3) rfl) ((br_n c_7 (br_p c_19 rfl)) : j_X4_readsOrder_31 μ x ((m_X4_order μ).1) (shS ((m_X4_order μ).2) 6 ((((m_X4_order μ).2) 6 0) + 3)) = m_X4_readsOrder μ x) _ _ hP hS ls (lv_sub hl [1, 2, 0] rfl)
  refine lv_iconst (v := 0) hx hb dX4_readsOrder_10 (by decide) ?_
  exact mo_finMz hx hb hr hlk hK hP hS (Or.inl rfl) (br_p c_7 rfl) dX4_readsOrder_11
theorem kV_X4_readsOrder {R : Room} {s : State} {args : Array Value} {own : String} {idx : Nat} {c0 : Cond} (hts : ∀ w ∈ c0 :: W0, w.before args s = true) (hl : Cond.methodLink own idx yX4_readsOrder ∈ W0) (hR : rm_X4_readsOrder.frames + 1 ≤ R.frames ∧ 8 + (4 + 11) + rm_X4_readsOrder.locals ≤ R.locals) : CallW R s args own RX4 idx yX4_readsOrder cX4_readsOrder 4 (some .boolean) (Cond.code yX4_readsOrder cX4_readsOrder 4 (some .boolean) :: W0) rm_X4_readsOrder 0 0 1 := cwV 1 hts (gdV hl mi_yX4_readsOrder ms_yX4_readsOrder mini_X4 mc_yX4_readsOrder) rfl rfl rfl (by decide +kernel) hR

theorem readsOrder_ok {μ : Nat → Nat → Int32} {x : Int32} (hok : okM μ) (hot : okT 101 μ) : rdP μ (m_X4_readsOrder μ x).2 := by
  have p0 := rdP_order hok hot
  have p3 := rdP_at hok hot 3 (by omega) (((m_X4_order μ).2 6 0) + 3) rfl
  have p4 := rdP_at hok hot 4 (by omega) (((m_X4_order μ).2 6 0) + 4) rfl
  have j59 : ∀ (y2 y3 : Int32) (ω : Nat → Nat → Int32), rdP μ ω → rdZ μ (j_X4_readsOrder_59 μ x y2 y3 ω) := by
    intro y2 y3 ω h
    unfold j_X4_readsOrder_59
    exact ite_ind (rdZ μ) (fun _ => rdI h) (fun _ => ite_ind (rdZ μ) (fun _ => rdI h) (fun _ => ite_ind (rdZ μ) (fun _ => rdI (rdP_S (rdP_S (rdP_carry h _ _ _) (by decide) _) (by decide) _)) (fun _ => rdI (rdP_S (rdP_S (rdP_carry h _ _ _) (by decide) _) (by decide) _))))
  have j31 : ∀ (y2 : Int32) (ω : Nat → Nat → Int32), rdP μ ω → rdZ μ (j_X4_readsOrder_31 μ x y2 ω) := by
    intro y2 ω h
    unfold j_X4_readsOrder_31
    exact ite_ind (rdZ μ) (fun _ => rdI (rdP_reads h)) (fun _ => ite_ind (rdZ μ) (fun _ => j59 _ _ _ (rdP_reads h)) (fun _ => ite_ind (rdZ μ) (fun _ => rdI (rdP_reads (rdP_reads h))) (fun _ => j59 _ _ _ (rdP_reads (rdP_reads h)))))
  have key : rdZ μ (m_X4_readsOrder μ x) := by
    unfold m_X4_readsOrder
    exact ite_ind (rdZ μ) (fun _ => rdI p0) (fun _ => ite_ind (rdZ μ) (fun _ => j31 _ _ p3) (fun _ => j31 _ _ p4))
  exact key
theorem z_readsOrder {μ : Nat → Nat → Int32} {x : Int32} : (m_X4_readsOrder μ x).1 = 0 ∨ (m_X4_readsOrder μ x).1 = 1 := by
  have j59 : ∀ (y2 y3 : Int32) (ω : Nat → Nat → Int32), zB (j_X4_readsOrder_59 μ x y2 y3 ω) := by
    intro y2 y3 ω
    unfold j_X4_readsOrder_59
    exact ite_ind zB (fun _ => zB1) (fun _ => ite_ind zB (fun _ => zB1) (fun _ => ite_ind zB (fun _ => zB1) (fun _ => zB1)))
  have j31 : ∀ (y2 : Int32) (ω : Nat → Nat → Int32), zB (j_X4_readsOrder_31 μ x y2 ω) := by
    intro y2 ω
    unfold j_X4_readsOrder_31
    exact ite_ind zB (fun _ => zB0) (fun _ => ite_ind zB (fun _ => j59 _ _ _) (fun _ => ite_ind zB (fun _ => zB0) (fun _ => j59 _ _ _)))
  have key : zB (m_X4_readsOrder μ x) := by
    unfold m_X4_readsOrder
    exact ite_ind zB (fun _ => zB0) (fun _ => ite_ind zB (fun _ => j31 _ _) (fun _ => j31 _ _))
  exact key

/-! X4.readsText -/
def g_X4_readsText_26 (μ : Nat → Nat → Int32) (x : Int32) : Nat → (Int32) → (Int32) → (Nat → Nat → Int32) → Int32 × (Nat → Nat → Int32)
  | 0, x2, x3, ω => (x2, ω)
  | fu + 1, x2, x3, ω => (if x2 = 0 then (x2, ω) else (if x3 = (-1) then (x2, ω) else (if x3 = 59 then g_X4_readsText_26 μ x fu ((m_X4_readsOrder (shS ω 6 ((ω 6 0) + 1)) x).1) ((m_X4_here ((m_X4_readsOrder (shS ω 6 ((ω 6 0) + 1)) x).2)).1) ((m_X4_here ((m_X4_readsOrder (shS ω 6 ((ω 6 0) + 1)) x).2)).2) else g_X4_readsText_26 μ x fu 0 x3 ω)))
def m_X4_readsText (μ : Nat → Nat → Int32) (x : Int32) : Int32 × (Nat → Nat → Int32) := ((g_X4_readsText_26 μ x 203 ((m_X4_readsOrder (shS (shS (shS μ 6 0) 8 0) 9 1) x).1) ((m_X4_here ((m_X4_readsOrder (shS (shS (shS μ 6 0) 8 0) 9 1) x).2)).1) ((m_X4_here ((m_X4_readsOrder (shS (shS (shS μ 6 0) 8 0) 9 1) x).2)).2)).1, (g_X4_readsText_26 μ x 203 ((m_X4_readsOrder (shS (shS (shS μ 6 0) 8 0) 9 1) x).1) ((m_X4_here ((m_X4_readsOrder (shS (shS (shS μ 6 0) 8 0) 9 1) x).2)).1) ((m_X4_here ((m_X4_readsOrder (shS (shS (shS μ 6 0) 8 0) 9 1) x).2)).2)).2)
abbrev rm_X4_readsText : Room := { frames := 7, cells := 0, slots := 0, locals := 162 }
theorem readsText_gz {μ : Nat → Nat → Int32} {x : Int32} : ∀ (fu : Nat) (y z : Int32) (ω : Nat → Nat → Int32), (y = 0 ∨ y = 1) → ((g_X4_readsText_26 μ x fu y z ω).1 = 0 ∨ (g_X4_readsText_26 μ x fu y z ω).1 = 1) := by
  intro fu
  induction fu with
  | zero => intro y z ω h; exact h
  | succ fu ih =>
    intro y z ω h
    rw [g_X4_readsText_26]
    refine ite_ind (fun z : MS => z.1 = 0 ∨ z.1 = 1) (fun _ => h) (fun _ => ite_ind (fun z : MS => z.1 = 0 ∨ z.1 = 1) (fun _ => h) (fun _ => ite_ind (fun z : MS => z.1 = 0 ∨ z.1 = 1) (fun _ => ?_) (fun _ => ?_)))
    · exact ih _ _ _ z_readsOrder
    · exact ih _ _ _ (Or.inl rfl)
set_option maxRecDepth 100000 in
theorem c_X4_readsText (l : Launch) (D : va_G) (cI : ClassId) (o : Nat) (a : Nat → Nat) (μ : Nat → Nat → Int32) (hh : Int64) (x : Int32) (hok : okM μ) (hol : μ 5 0 = nI (tl μ) ∧ tl μ ≤ 100) :
    Met l yX4_readsText (Cond.code yX4_readsText cX4_readsText 4 (some .boolean) :: W0) rm_X4_readsText (va_Pc [.ref o, .int x] (moM D cI o a μ hh)) (moQ D cI o a hh (m_X4_readsText μ x)) 0 0 (moA o a) := by
  refine st_gen (cc := cX4_readsText) (maxL := 4) (ret := some .boolean) (own := RX4) (by decide) rfl (Nat.le_of_ble_eq_true rfl) ?_
  intro p e s m below meth c ls C hPre hl
  obtain ⟨hx, hb, hr, hml, hown, hts, hlk⟩ := C
  obtain ⟨⟨hP, hK⟩, hD⟩ := hPre
  have hS : va_S (moA o a) s.heap s.heap [] := va_S.rf
  have hl : lv_has ls 4 [(0, .ref (o)), (1, .int (x))] := hl
  refine lv_aload_n hx hb dX4_readsText_0 rfl (lv_at hl 0 rfl) ?_
  refine lv_iconst (v := 0) hx hb dX4_readsText_1 (by decide) ?_
  refine mo_p6 hx hb hts hown hK hP hD hS dX4_readsText_2 (fun H locs hP hS => ?_)
  refine lv_aload_n hx hb dX4_readsText_5 rfl (lv_at hl 0 rfl) ?_
  refine lv_iconst (v := 0) hx hb dX4_readsText_6 (by decide) ?_
  refine mo_p8 hx hb hts hown hK hP hD hS dX4_readsText_7 (fun H locs hP hS => ?_)
  refine lv_aload_n hx hb dX4_readsText_10 rfl (lv_at hl 0 rfl) ?_
  refine lv_iconst (v := 1) hx hb dX4_readsText_11 (by decide) ?_
  refine mo_p9 hx hb hts hown hK hP hD hS (Or.inr rfl) dX4_readsText_12 (fun H locs hP hS => ?_)
  have hokA : okM (shS (shS (shS μ 6 0) 8 0) 9 1) := okM_eq hok rfl rfl
  have hotA : okT 101 (shS (shS (shS μ 6 0) 8 0) 9 1) := okT_0 hol rfl rfl (by omega)
  refine lv_aload_n hx hb dX4_readsText_15 rfl (lv_at hl 0 rfl) ?_
  refine lv_iload_n hx hb dX4_readsText_16 rfl (lv_at hl 1 rfl) ?_
  refine mo_callM (rest := []) hx hb hml hown hts hK hP hD hS (c_X4_readsOrder l D cI o a (shS (shS (shS μ 6 0) 8 0) 9 1) hh x (by with_reducible assumption) (by with_reducible assumption)) (kV_X4_readsOrder hts ml_X4_229 ⟨(Nat.le_of_ble_eq_true rfl), (Nat.le_of_ble_eq_true rfl)⟩) rfl hl.1 rfl (Nat.le_of_ble_eq_true rfl) dX4_readsText_17 (Nat.zero_le _) (Nat.zero_le _) (fun H locs hP hS => ?_)
  obtain ⟨_, _, _, _, _, _⟩ := readsOrder_ok (μ := (shS (shS (shS μ 6 0) 8 0) 9 1)) (x := x) (by with_reducible assumption) (by with_reducible assumption)
  refine lv_istore_n (lv' := [(2, .int ((m_X4_readsOrder (shS (shS (shS μ 6 0) 8 0) 9 1) x).1)), (0, .ref (o)), (1, .int (x))]) hx hb dX4_readsText_20 rfl hl (by decide) rfl (fun ls hl => ?_)
  refine lv_aload_n hx hb dX4_readsText_21 rfl (lv_at hl 1 rfl) ?_
  refine mo_callM (rest := []) hx hb hml hown hts hK hP hD hS (c_X4_here l D cI o a ((m_X4_readsOrder (shS (shS (shS μ 6 0) 8 0) 9 1) x).2) hh _ (by with_reducible assumption)) (kV_X4_here hts ml_X4_198 ⟨(Nat.le_of_ble_eq_true rfl), (Nat.le_of_ble_eq_true rfl)⟩) rfl hl.1 rfl (Nat.le_of_ble_eq_true rfl) dX4_readsText_22 (Nat.zero_le _) (Nat.zero_le _) (fun H locs hP hS => ?_)
  have hk_here := here_ok (μ := ((m_X4_readsOrder (shS (shS (shS μ 6 0) 8 0) 9 1) x).2)) (by with_reducible assumption)
  obtain ⟨_, _, _⟩ := here_ok (μ := ((m_X4_readsOrder (shS (shS (shS μ 6 0) 8 0) 9 1) x).2)) (by with_reducible assumption)
  have hokB : okM ((m_X4_here ((m_X4_readsOrder (shS (shS (shS μ 6 0) 8 0) 9 1) x).2)).2) := okM_here (by with_reducible assumption)
  refine lv_istore_n (lv' := [(3, .int ((m_X4_here ((m_X4_readsOrder (shS (shS (shS μ 6 0) 8 0) 9 1) x).2)).1)), (2, .int ((m_X4_readsOrder (shS (shS (shS μ 6 0) 8 0) 9 1) x).1)), (0, .ref (o)), (1, .int (x))]) hx hb dX4_readsText_25 rfl hl (by decide) rfl (fun ls hl => ?_)
  have K_75 : ∀ (H : Heap) (locs : List Loc), va_P D vwCl (moW cI o a ((g_X4_readsText_26 μ x 203 ((m_X4_readsOrder (shS (shS (shS μ 6 0) 8 0) 9 1) x).1) ((m_X4_here ((m_X4_readsOrder (shS (shS (shS μ 6 0) 8 0) 9 1) x).2)).1) ((m_X4_here ((m_X4_readsOrder (shS (shS (shS μ 6 0) 8 0) 9 1) x).2)).2)).2) hh) H → va_S (moA o a) s.heap H locs → ∀ ls, lv_has ls 4 [(0, .ref (o)), (1, .int (x)), (2, .int ((g_X4_readsText_26 μ x 203 ((m_X4_readsOrder (shS (shS (shS μ 6 0) 8 0) 9 1) x).1) ((m_X4_here ((m_X4_readsOrder (shS (shS (shS μ 6 0) 8 0) 9 1) x).2)).1) ((m_X4_here ((m_X4_readsOrder (shS (shS (shS μ 6 0) 8 0) 9 1) x).2)).2)).1))] → W p l e rm_X4_readsText s m (([.ref (o), .int (x)] : List Value).toArray) below meth c H locs 0 0 (MQ below (moQ D cI o a hh (m_X4_readsText μ x)) ([.ref (o), .int (x)] : List Value).toArray s 0 0 (moA o a)) (F0 m 75 ls []) := by
    intro H locs hP hS ls hl
    refine lv_iload_n hx hb dX4_readsText_75 rfl (lv_at hl 2 rfl) ?_
    exact mo_finMz hx hb hr hlk hK hP hS (readsText_gz _ _ _ _ z_readsOrder) rfl dX4_readsText_76
  have L_26 : ∀ (fu : Nat) (x2 : Int32) (x3 : Int32) (ω : Nat → Nat → Int32), 2 * (tl ω - ta ω) + (if x2 = 0 then 0 else 1) < fu → okM ω → okT 105 ω → x3 = (-1) ∨ ta ω < tl ω → g_X4_readsText_26 μ x fu x2 x3 ω = g_X4_readsText_26 μ x 203 ((m_X4_readsOrder (shS (shS (shS μ 6 0) 8 0) 9 1) x).1) ((m_X4_here ((m_X4_readsOrder (shS (shS (shS μ 6 0) 8 0) 9 1) x).2)).1) ((m_X4_here ((m_X4_readsOrder (shS (shS (shS μ 6 0) 8 0) 9 1) x).2)).2) → ∀ (H : Heap) (locs : List Loc), va_P D vwCl (moW cI o a ω hh) H → va_S (moA o a) s.heap H locs → ∀ ls, lv_has ls 4 [(0, .ref (o)), (1, .int (x)), (2, .int (x2)), (3, .int (x3))] → W p l e rm_X4_readsText s m (([.ref (o), .int (x)] : List Value).toArray) below meth c H locs 0 0 (MQ below (moQ D cI o a hh (m_X4_readsText μ x)) ([.ref (o), .int (x)] : List Value).toArray s 0 0 (moA o a)) (F0 m 26 ls []) := by
    intro fu
    induction fu with
    | zero => intro x2 x3 ω hm; exact absurd hm (Nat.not_lt_zero _)
    | succ fu ih =>
      intro x2 x3 ω hm hok2 hot2 hx3 hg_26 H locs hP hS ls hl
      refine lv_iload_n hx hb dX4_readsText_26 rfl (lv_at hl 2 rfl) ?_
      refine lv_if_eq (tgt := 75) hx hb dX4_readsText_27 (by decide) (fun c_27 => ?_) (fun c_27 => ?_)
      · have ex : (x2, ω) = g_X4_readsText_26 μ x 203 ((m_X4_readsOrder (shS (shS (shS μ 6 0) 8 0) 9 1) x).1) ((m_X4_here ((m_X4_readsOrder (shS (shS (shS μ 6 0) 8 0) 9 1) x).2)).1) ((m_X4_here ((m_X4_readsOrder (shS (shS (shS μ 6 0) 8 0) 9 1) x).2)).2) := ((br_p c_27 rfl) : (x2, ω) = g_X4_readsText_26 μ x (fu + 1) x2 x3 ω).trans hg_26
        have ex0 : x2 = (g_X4_readsText_26 μ x 203 ((m_X4_readsOrder (shS (shS (shS μ 6 0) 8 0) 9 1) x).1) ((m_X4_here ((m_X4_readsOrder (shS (shS (shS μ 6 0) 8 0) 9 1) x).2)).1) ((m_X4_here ((m_X4_readsOrder (shS (shS (shS μ 6 0) 8 0) 9 1) x).2)).2)).1 := congrArg (fun z => z.1) ex
        have ex1 : ω = (g_X4_readsText_26 μ x 203 ((m_X4_readsOrder (shS (shS (shS μ 6 0) 8 0) 9 1) x).1) ((m_X4_here ((m_X4_readsOrder (shS (shS (shS μ 6 0) 8 0) 9 1) x).2)).1) ((m_X4_here ((m_X4_readsOrder (shS (shS (shS μ 6 0) 8 0) 9 1) x).2)).2)).2 := congrArg (fun z => z.2) ex
        exact K_75 _ _ (by rw [← ex1]; exact hP) hS ls (by rw [← ex0]; exact lv_sub hl [0, 1, 2] rfl)
      refine lv_iload_n hx hb dX4_readsText_30 rfl (lv_at hl 3 rfl) ?_
      refine lv_iconst (v := (-1)) hx hb dX4_readsText_31 (by decide) ?_
      refine lv_icmp_eq (tgt := 75) hx hb dX4_readsText_32 (by decide) (fun c_32 => ?_) (fun c_32 => ?_)
      · have ex : (x2, ω) = g_X4_readsText_26 μ x 203 ((m_X4_readsOrder (shS (shS (shS μ 6 0) 8 0) 9 1) x).1) ((m_X4_here ((m_X4_readsOrder (shS (shS (shS μ 6 0) 8 0) 9 1) x).2)).1) ((m_X4_here ((m_X4_readsOrder (shS (shS (shS μ 6 0) 8 0) 9 1) x).2)).2) := ((br_n c_27 (br_p c_32 rfl)) : (x2, ω) = g_X4_readsText_26 μ x (fu + 1) x2 x3 ω).trans hg_26
        have ex0 : x2 = (g_X4_readsText_26 μ x 203 ((m_X4_readsOrder (shS (shS (shS μ 6 0) 8 0) 9 1) x).1) ((m_X4_here ((m_X4_readsOrder (shS (shS (shS μ 6 0) 8 0) 9 1) x).2)).1) ((m_X4_here ((m_X4_readsOrder (shS (shS (shS μ 6 0) 8 0) 9 1) x).2)).2)).1 := congrArg (fun z => z.1) ex
        have ex1 : ω = (g_X4_readsText_26 μ x 203 ((m_X4_readsOrder (shS (shS (shS μ 6 0) 8 0) 9 1) x).1) ((m_X4_here ((m_X4_readsOrder (shS (shS (shS μ 6 0) 8 0) 9 1) x).2)).1) ((m_X4_here ((m_X4_readsOrder (shS (shS (shS μ 6 0) 8 0) 9 1) x).2)).2)).2 := congrArg (fun z => z.2) ex
        exact K_75 _ _ (by rw [← ex1]; exact hP) hS ls (by rw [← ex0]; exact lv_sub hl [0, 1, 2] rfl)
      refine lv_iload_n hx hb dX4_readsText_35 rfl (lv_at hl 3 rfl) ?_
      refine lv_bipush (v := 59) hx hb dX4_readsText_36 (by decide) ?_
      refine lv_icmp_ne (tgt := 45) hx hb dX4_readsText_38 (by decide) (fun c_38 => ?_) (fun c_38 => ?_)
      · refine lv_iconst (v := 0) hx hb dX4_readsText_45 (by decide) ?_
        refine lv_istore_n (lv' := [(2, .int (0)), (0, .ref (o)), (1, .int (x)), (3, .int (x3))]) hx hb dX4_readsText_46 rfl hl (by decide) rfl (fun ls hl => ?_)
        refine lv_iload_n hx hb dX4_readsText_47 rfl (lv_at hl 0 rfl) ?_
        refine lv_if_eq (tgt := 26) hx hb dX4_readsText_48 (by decide) (fun _ => ?_) (fun q => absurd rfl q)
        exact ih 0 x3 ω (by rw [if_neg c_27] at hm; first | (rw [if_pos rfl]; omega) | (split <;> omega)) (by with_reducible assumption) (by with_reducible assumption) (by first | with_reducible exact hx3 | with_reducible exact here_v) (((br_n c_27 (br_n c_32 (br_n c_38 rfl))) : g_X4_readsText_26 μ x fu 0 x3 ω = g_X4_readsText_26 μ x (fu + 1) x2 x3 ω).trans hg_26) _ _ hP hS ls (lv_sub hl [1, 2, 0, 3] rfl)
      refine lv_iconst (v := 1) hx hb dX4_readsText_41 (by decide) ?_
      refine lv_goto (tgt := 46) hx hb dX4_readsText_42 (by decide) ?_
      refine lv_istore_n (lv' := [(2, .int (1)), (0, .ref (o)), (1, .int (x)), (3, .int (x3))]) hx hb dX4_readsText_46 rfl hl (by decide) rfl (fun ls hl => ?_)
      refine lv_iload_n hx hb dX4_readsText_47 rfl (lv_at hl 0 rfl) ?_
      refine lv_if_eq (tgt := 26) hx hb dX4_readsText_48 (by decide) (fun q => absurd q (by decide)) (fun _ => ?_)
      have hlt := hx3.resolve_left c_32
      have hl4 := (okT_l hot2).2
      refine lv_aload_n hx hb dX4_readsText_51 rfl (lv_at hl 1 rfl) ?_
      refine lv_dup hx hb dX4_readsText_52 rfl ?_
      refine mo_g6 hx hb hts hown hK hP (v := ω 6 0) rfl dX4_readsText_53 ?_
      refine lv_iconst (v := 1) hx hb dX4_readsText_56 (by decide) ?_
      refine lv_iadd hx hb dX4_readsText_57 ?_
      refine mo_p6 hx hb hts hown hK hP hD hS dX4_readsText_58 (fun H locs hP hS => ?_)
      have hat := at_add (b' := 101) hot2 1 (ω 6 0 + 1) rfl (by omega) (by omega)
      have hot3 := hat.1
      have hat2 := hat.2.1
      have hat3 := hat.2.2
      have hok3 : okM (shS ω 6 ((ω 6 0) + 1)) := okM_shS hok2 (by omega : 2 ≤ 6) (ω 6 0 + 1)
      refine lv_aload_n hx hb dX4_readsText_61 rfl (lv_at hl 1 rfl) ?_
      refine lv_iload_n hx hb dX4_readsText_62 rfl (lv_at hl 2 rfl) ?_
      refine mo_callM (rest := []) hx hb hml hown hts hK hP hD hS (c_X4_readsOrder l D cI o a (shS ω 6 ((ω 6 0) + 1)) hh x (by with_reducible assumption) (by with_reducible assumption)) (kV_X4_readsOrder hts ml_X4_229 ⟨(Nat.le_of_ble_eq_true rfl), (Nat.le_of_ble_eq_true rfl)⟩) rfl hl.1 rfl (Nat.le_of_ble_eq_true rfl) dX4_readsText_63 (Nat.zero_le _) (Nat.zero_le _) (fun H locs hP hS => ?_)
      obtain ⟨_, _, _, _, _, _⟩ := readsOrder_ok (μ := (shS ω 6 ((ω 6 0) + 1))) (x := x) (by with_reducible assumption) (by with_reducible assumption)
      refine lv_istore_n (lv' := [(2, .int ((m_X4_readsOrder (shS ω 6 ((ω 6 0) + 1)) x).1)), (0, .ref (o)), (1, .int (x)), (3, .int (x3))]) hx hb dX4_readsText_66 rfl hl (by decide) rfl (fun ls hl => ?_)
      refine lv_aload_n hx hb dX4_readsText_67 rfl (lv_at hl 1 rfl) ?_
      refine mo_callM (rest := []) hx hb hml hown hts hK hP hD hS (c_X4_here l D cI o a ((m_X4_readsOrder (shS ω 6 ((ω 6 0) + 1)) x).2) hh _ (by with_reducible assumption)) (kV_X4_here hts ml_X4_198 ⟨(Nat.le_of_ble_eq_true rfl), (Nat.le_of_ble_eq_true rfl)⟩) rfl hl.1 rfl (Nat.le_of_ble_eq_true rfl) dX4_readsText_68 (Nat.zero_le _) (Nat.zero_le _) (fun H locs hP hS => ?_)
      have hk_here := here_ok (μ := ((m_X4_readsOrder (shS ω 6 ((ω 6 0) + 1)) x).2)) (by with_reducible assumption)
      obtain ⟨_, _, _⟩ := here_ok (μ := ((m_X4_readsOrder (shS ω 6 ((ω 6 0) + 1)) x).2)) (by with_reducible assumption)
      have hok4 : okM ((m_X4_here ((m_X4_readsOrder (shS ω 6 ((ω 6 0) + 1)) x).2)).2) := okM_here (by with_reducible assumption)
      refine lv_istore_n (lv' := [(3, .int ((m_X4_here ((m_X4_readsOrder (shS ω 6 ((ω 6 0) + 1)) x).2)).1)), (2, .int ((m_X4_readsOrder (shS ω 6 ((ω 6 0) + 1)) x).1)), (0, .ref (o)), (1, .int (x))]) hx hb dX4_readsText_71 rfl hl (by decide) rfl (fun ls hl => ?_)
      refine lv_goto (tgt := 26) hx hb dX4_readsText_72 (by decide) ?_
      exact ih ((m_X4_readsOrder (shS ω 6 ((ω 6 0) + 1)) x).1) ((m_X4_here ((m_X4_readsOrder (shS ω 6 ((ω 6 0) + 1)) x).2)).1) ((m_X4_here ((m_X4_readsOrder (shS ω 6 ((ω 6 0) + 1)) x).2)).2) (by rw [if_neg c_27] at hm; first | (rw [if_pos rfl]; omega) | (split <;> omega)) (by with_reducible assumption) (by with_reducible assumption) (by first | with_reducible exact hx3 | with_reducible exact here_v) (((br_n c_27 (br_n c_32 (br_p c_38 rfl))) : g_X4_readsText_26 μ x fu ((m_X4_readsOrder (shS ω 6 ((ω 6 0) + 1)) x).1) ((m_X4_here ((m_X4_readsOrder (shS ω 6 ((ω 6 0) + 1)) x).2)).1) ((m_X4_here ((m_X4_readsOrder (shS ω 6 ((ω 6 0) + 1)) x).2)).2) = g_X4_readsText_26 μ x (fu + 1) x2 x3 ω).trans hg_26) _ _ hP hS ls (lv_sub hl [2, 3, 1, 0] rfl)
  exact L_26 203 ((m_X4_readsOrder (shS (shS (shS μ 6 0) 8 0) 9 1) x).1) ((m_X4_here ((m_X4_readsOrder (shS (shS (shS μ 6 0) 8 0) 9 1) x).2)).1) ((m_X4_here ((m_X4_readsOrder (shS (shS (shS μ 6 0) 8 0) 9 1) x).2)).2) (by have := (okT_l (b := 105) (μ := ((m_X4_here ((m_X4_readsOrder (shS (shS (shS μ 6 0) 8 0) 9 1) x).2)).2)) (by with_reducible assumption)).2; split <;> omega) (by with_reducible assumption) (by with_reducible assumption) here_v rfl _ _ hP hS ls (lv_sub hl [2, 3, 1, 0] rfl)
theorem kV_X4_readsText {R : Room} {s : State} {args : Array Value} {own : String} {idx : Nat} {c0 : Cond} (hts : ∀ w ∈ c0 :: W0, w.before args s = true) (hl : Cond.methodLink own idx yX4_readsText ∈ W0) (hR : rm_X4_readsText.frames + 1 ≤ R.frames ∧ 8 + (4 + 11) + rm_X4_readsText.locals ≤ R.locals) : CallW R s args own RX4 idx yX4_readsText cX4_readsText 4 (some .boolean) (Cond.code yX4_readsText cX4_readsText 4 (some .boolean) :: W0) rm_X4_readsText 0 0 1 := cwV 1 hts (gdV hl mi_yX4_readsText ms_yX4_readsText mini_X4 mc_yX4_readsText) rfl rfl rfl (by decide +kernel) hR

theorem readsText_g {μ : Nat → Nat → Int32} {x : Int32} : ∀ (fu : Nat) (y z : Int32) (ω : Nat → Nat → Int32), okM ω → okT 105 ω → (z = (-1) ∨ ta ω < tl ω) → okM (g_X4_readsText_26 μ x fu y z ω).2 ∧ okT 105 (g_X4_readsText_26 μ x fu y z ω).2 ∧ (g_X4_readsText_26 μ x fu y z ω).2 5 = ω 5 ∧ (g_X4_readsText_26 μ x fu y z ω).2 4 = ω 4 := by
  intro fu
  induction fu with
  | zero => intro y z ω h1 h2 _; exact ⟨h1, h2, rfl, rfl⟩
  | succ fu ih =>
    intro y z ω h1 h2 h3
    rw [g_X4_readsText_26]
    refine ite_ind (fun z : MS => okM z.2 ∧ okT 105 z.2 ∧ z.2 5 = ω 5 ∧ z.2 4 = ω 4) (fun _ => ⟨h1, h2, rfl, rfl⟩) (fun q1 => ite_ind (fun z : MS => okM z.2 ∧ okT 105 z.2 ∧ z.2 5 = ω 5 ∧ z.2 4 = ω 4) (fun _ => ⟨h1, h2, rfl, rfl⟩) (fun q2 => ite_ind (fun z : MS => okM z.2 ∧ okT 105 z.2 ∧ z.2 5 = ω 5 ∧ z.2 4 = ω 4) (fun q3 => ?_) (fun q3 => ih _ _ _ h1 h2 h3)))
    have hlt := h3.resolve_left q2
    have hl := (okT_l h2).2
    obtain ⟨r1, r2, r3⟩ := at_add (b' := 101) h2 1 (ω 6 0 + 1) rfl (by omega) (by omega)
    obtain ⟨s1, s2, s3, s4, s5, s6⟩ := readsOrder_ok (x := x) (okM_shS h1 (by omega : 2 ≤ 6) (ω 6 0 + 1)) r1
    obtain ⟨t1, t2, t3⟩ := here_ok s2
    have u := ih (m_X4_readsOrder (shS ω 6 (ω 6 0 + 1)) x).1 _ _ (okM_here s1) t1 here_v
    exact ⟨u.1, u.2.1, u.2.2.1.trans ((here_f (by decide)).trans (s5.trans (shS_f (by decide)))), u.2.2.2.trans ((here_f (by decide)).trans (s6.trans (shS_f (by decide))))⟩
theorem readsText_ok {μ : Nat → Nat → Int32} {x : Int32} (hok : okM μ) (hol : μ 5 0 = nI (tl μ) ∧ tl μ ≤ 100) : okM (m_X4_readsText μ x).2 ∧ okT 105 (m_X4_readsText μ x).2 ∧ (m_X4_readsText μ x).2 5 = μ 5 ∧ (m_X4_readsText μ x).2 4 = μ 4 := by
  have hA : okM (shS (shS (shS μ 6 0) 8 0) 9 1) := okM_eq hok rfl rfl
  have hB : okT 101 (shS (shS (shS μ 6 0) 8 0) 9 1) := okT_0 hol rfl rfl (by omega)
  obtain ⟨s1, s2, s3, s4, s5, s6⟩ := readsOrder_ok (x := x) hA hB
  obtain ⟨t1, t2, t3⟩ := here_ok s2
  unfold m_X4_readsText
  dsimp only
  have u := readsText_g (μ := μ) (x := x) 203 (m_X4_readsOrder (shS (shS (shS μ 6 0) 8 0) 9 1) x).1 _ _ (okM_here s1) t1 here_v
  exact ⟨u.1, u.2.1, u.2.2.1.trans ((here_f (by decide)).trans s5), u.2.2.2.trans ((here_f (by decide)).trans s6)⟩
theorem z_readsText {μ : Nat → Nat → Int32} {x : Int32} : (m_X4_readsText μ x).1 = 0 ∨ (m_X4_readsText μ x).1 = 1 := by
  unfold m_X4_readsText
  dsimp only
  exact readsText_gz _ _ _ _ z_readsOrder

/-! X4.textFault -/
def m_X4_textFault (μ : Nat → Nat → Int32) : Int32 × (Nat → Nat → Int32) := (if ((m_X4_readsText μ 0).1) = 0 then (((m_X4_readsText μ 0).2) 6 0, (m_X4_readsText μ 0).2) else ((-1), (m_X4_readsText μ 0).2))
abbrev rm_X4_textFault : Room := { frames := 8, cells := 0, slots := 0, locals := 185 }
set_option maxRecDepth 100000 in
theorem c_X4_textFault (l : Launch) (D : va_G) (cI : ClassId) (o : Nat) (a : Nat → Nat) (μ : Nat → Nat → Int32) (hh : Int64) (hok : okM μ) (hol : μ 5 0 = nI (tl μ) ∧ tl μ ≤ 100) :
    Met l yX4_textFault (Cond.code yX4_textFault cX4_textFault 1 (some .int) :: W0) rm_X4_textFault (va_Pc [.ref o] (moM D cI o a μ hh)) (moQ D cI o a hh (m_X4_textFault μ)) 0 0 (moA o a) := by
  refine st_gen (cc := cX4_textFault) (maxL := 1) (ret := some .int) (own := RX4) (by decide) rfl (Nat.le_of_ble_eq_true rfl) ?_
  intro p e s m below meth c ls C hPre hl
  obtain ⟨hx, hb, hr, hml, hown, hts, hlk⟩ := C
  obtain ⟨⟨hP, hK⟩, hD⟩ := hPre
  have hS : va_S (moA o a) s.heap s.heap [] := va_S.rf
  have hl : lv_has ls 1 [(0, .ref (o))] := hl
  refine lv_aload_n hx hb dX4_textFault_0 rfl (lv_at hl 0 rfl) ?_
  refine lv_iconst (v := 0) hx hb dX4_textFault_1 (by decide) ?_
  refine mo_callM (rest := []) hx hb hml hown hts hK hP hD hS (c_X4_readsText l D cI o a μ hh 0 (by with_reducible assumption) (by with_reducible assumption)) (kV_X4_readsText hts ml_X4_233 ⟨(Nat.le_of_ble_eq_true rfl), (Nat.le_of_ble_eq_true rfl)⟩) rfl hl.1 rfl (Nat.le_of_ble_eq_true rfl) dX4_textFault_2 (Nat.zero_le _) (Nat.zero_le _) (fun H locs hP hS => ?_)
  obtain ⟨hrt1, hrt2, hrt3, hrt4⟩ := readsText_ok (μ := μ) (x := 0) (by with_reducible assumption) (by with_reducible assumption)
  refine lv_if_eq (tgt := 12) hx hb dX4_textFault_5 (by decide) (fun c_5 => ?_) (fun c_5 => ?_)
  · refine lv_aload_n hx hb dX4_textFault_12 rfl (lv_at hl 0 rfl) ?_
    refine mo_g6 hx hb hts hown hK hP (v := ((m_X4_readsText μ 0).2) 6 0) rfl dX4_textFault_13 ?_
    exact mo_finM hx hb hr hlk hK hP hS (br_p c_5 rfl) dX4_textFault_16
  refine lv_iconst (v := (-1)) hx hb dX4_textFault_8 (by decide) ?_
  refine lv_goto (tgt := 16) hx hb dX4_textFault_9 (by decide) ?_
  exact mo_finM hx hb hr hlk hK hP hS (br_n c_5 rfl) dX4_textFault_16
theorem kV_X4_textFault {R : Room} {s : State} {args : Array Value} {own : String} {idx : Nat} {c0 : Cond} (hts : ∀ w ∈ c0 :: W0, w.before args s = true) (hl : Cond.methodLink own idx yX4_textFault ∈ W0) (hR : rm_X4_textFault.frames + 1 ≤ R.frames ∧ 8 + (1 + 11) + rm_X4_textFault.locals ≤ R.locals) : CallW R s args own RX4 idx yX4_textFault cX4_textFault 1 (some .int) (Cond.code yX4_textFault cX4_textFault 1 (some .int) :: W0) rm_X4_textFault 0 0 0 := cwV 0 hts (gdV hl mi_yX4_textFault ms_yX4_textFault mini_X4 mc_yX4_textFault) rfl rfl rfl (by decide +kernel) hR

/-! X4.orders -/
def m_X4_orders (μ : Nat → Nat → Int32) : Int32 × (Nat → Nat → Int32) := (if ((m_X4_readsText μ 0).1) = 0 then ((-4), (m_X4_readsText μ 0).2) else (((m_X4_readsText (s_X4_saves ((m_X4_readsText μ 0).2)) 1).2) 8 0, (m_X4_readsText (s_X4_saves ((m_X4_readsText μ 0).2)) 1).2))
abbrev rm_X4_orders : Room := { frames := 8, cells := 0, slots := 0, locals := 185 }
set_option maxRecDepth 100000 in
theorem c_X4_orders (l : Launch) (D : va_G) (cI : ClassId) (o : Nat) (a : Nat → Nat) (μ : Nat → Nat → Int32) (hh : Int64) (hok : okM μ) (hol : μ 5 0 = nI (tl μ) ∧ tl μ ≤ 100) :
    Met l yX4_orders (Cond.code yX4_orders cX4_orders 2 (some .int) :: W0) rm_X4_orders (va_Pc [.ref o] (moM D cI o a μ hh)) (moQ D cI o a hh (m_X4_orders μ)) 0 0 (moA o a) := by
  refine st_gen (cc := cX4_orders) (maxL := 2) (ret := some .int) (own := RX4) (by decide) rfl (Nat.le_of_ble_eq_true rfl) ?_
  intro p e s m below meth c ls C hPre hl
  obtain ⟨hx, hb, hr, hml, hown, hts, hlk⟩ := C
  obtain ⟨⟨hP, hK⟩, hD⟩ := hPre
  have hS : va_S (moA o a) s.heap s.heap [] := va_S.rf
  have hl : lv_has ls 2 [(0, .ref (o))] := hl
  refine lv_aload_n hx hb dX4_orders_0 rfl (lv_at hl 0 rfl) ?_
  refine lv_iconst (v := 0) hx hb dX4_orders_1 (by decide) ?_
  refine mo_callM (rest := []) hx hb hml hown hts hK hP hD hS (c_X4_readsText l D cI o a μ hh 0 (by with_reducible assumption) (by with_reducible assumption)) (kV_X4_readsText hts ml_X4_233 ⟨(Nat.le_of_ble_eq_true rfl), (Nat.le_of_ble_eq_true rfl)⟩) rfl hl.1 rfl (Nat.le_of_ble_eq_true rfl) dX4_orders_2 (Nat.zero_le _) (Nat.zero_le _) (fun H locs hP hS => ?_)
  obtain ⟨hrt1, hrt2, hrt3, hrt4⟩ := readsText_ok (μ := μ) (x := 0) (by with_reducible assumption) (by with_reducible assumption)
  refine lv_if_ne (tgt := 11) hx hb dX4_orders_5 (by decide) (fun c_5 => ?_) (fun c_5 => ?_)
  · refine lv_aload_n hx hb dX4_orders_11 rfl (lv_at hl 0 rfl) ?_
    refine mo_callV (rest := []) hx hb hml hown hts hK hP hD hS (c_X4_saves l D cI o a ((m_X4_readsText μ 0).2) hh (by with_reducible assumption)) (kV_X4_saves hts ml_X4_62 ⟨(Nat.le_of_ble_eq_true rfl), (Nat.le_of_ble_eq_true rfl)⟩) rfl hl.1 rfl (Nat.le_of_ble_eq_true rfl) dX4_orders_12 (Nat.zero_le _) (Nat.zero_le _) (fun H locs hP hS => ?_)
    have hok_sv := saves_ok (μ := (m_X4_readsText μ 0).2) (by with_reducible assumption)
    obtain ⟨hsn, hst, hsc⟩ := saves_n (μ := (m_X4_readsText μ 0).2) (by with_reducible assumption)
    have hol2 : (s_X4_saves (m_X4_readsText μ 0).2) 5 0 = nI (tl (s_X4_saves (m_X4_readsText μ 0).2)) ∧ tl (s_X4_saves (m_X4_readsText μ 0).2) ≤ 100 := by unfold tl; rw [saves_f (by decide) (by decide), hrt3]; exact hol
    refine lv_aload_n hx hb dX4_orders_15 rfl (lv_at hl 0 rfl) ?_
    refine lv_iconst (v := 1) hx hb dX4_orders_16 (by decide) ?_
    refine mo_callM (rest := []) hx hb hml hown hts hK hP hD hS (c_X4_readsText l D cI o a (s_X4_saves ((m_X4_readsText μ 0).2)) hh 1 (by with_reducible assumption) (by with_reducible assumption)) (kV_X4_readsText hts ml_X4_233 ⟨(Nat.le_of_ble_eq_true rfl), (Nat.le_of_ble_eq_true rfl)⟩) rfl hl.1 rfl (Nat.le_of_ble_eq_true rfl) dX4_orders_17 (Nat.zero_le _) (Nat.zero_le _) (fun H locs hP hS => ?_)
    obtain ⟨hrt1, hrt2, hrt3, hrt4⟩ := readsText_ok (μ := (s_X4_saves ((m_X4_readsText μ 0).2))) (x := 1) (by with_reducible assumption) (by with_reducible assumption)
    refine lv_istore_n (lv' := [(1, .int ((m_X4_readsText (s_X4_saves ((m_X4_readsText μ 0).2)) 1).1)), (0, .ref (o))]) hx hb dX4_orders_20 rfl hl (by decide) rfl (fun ls hl => ?_)
    refine lv_aload_n hx hb dX4_orders_21 rfl (lv_at hl 1 rfl) ?_
    refine mo_g8 hx hb hts hown hK hP (v := ((m_X4_readsText (s_X4_saves ((m_X4_readsText μ 0).2)) 1).2) 8 0) rfl dX4_orders_22 ?_
    exact mo_finM hx hb hr hlk hK hP hS (br_n c_5 rfl) dX4_orders_25
  refine lv_bipush (v := (-4)) hx hb dX4_orders_8 (by decide) ?_
  exact mo_finM hx hb hr hlk hK hP hS (br_p c_5 rfl) dX4_orders_10
theorem kV_X4_orders {R : Room} {s : State} {args : Array Value} {own : String} {idx : Nat} {c0 : Cond} (hts : ∀ w ∈ c0 :: W0, w.before args s = true) (hl : Cond.methodLink own idx yX4_orders ∈ W0) (hR : rm_X4_orders.frames + 1 ≤ R.frames ∧ 8 + (2 + 11) + rm_X4_orders.locals ≤ R.locals) : CallW R s args own RX4 idx yX4_orders cX4_orders 2 (some .int) (Cond.code yX4_orders cX4_orders 2 (some .int) :: W0) rm_X4_orders 0 0 0 := cwV 0 hts (gdV hl mi_yX4_orders ms_yX4_orders mini_X4 mc_yX4_orders) rfl rfl rfl (by decide +kernel) hR

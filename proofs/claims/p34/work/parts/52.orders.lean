theorem up_up {α : Type} (f : Nat → α) (k : Nat) (v w : α) : va_up (va_up f k v) k w = va_up f k w := by
  funext j
  unfold va_up
  split <;> rfl
theorem up_same {α : Type} (f : Nat → α) (k : Nat) (v : α) (h : f k = v) : va_up f k v = f := by
  funext j
  by_cases c : j = k
  · rw [c, va_up_self, h]
  · rw [va_up_ne f v c]
def g_X3_orders : Nat → Nat → (Nat → Nat → Int32) → (Nat → Nat → Int32) → Nat × (Nat → Nat → Int32) × (Nat → Nat → Int32)
  | 0, i, ω, σ => (i, ω, σ)
  | fu + 1, i, ω, σ => if 100 ≤ i then (i, ω, σ) else if ω 3 0 = 0 then (i, ω, σ) else if (m_X1_readOrder ω).1 = (-1) then (if (m_X3_carryOut σ (m_X1_readOrder ω).2).1 < 0 then (i, (m_X1_readOrder ω).2, (m_X3_carryOut σ (m_X1_readOrder ω).2).2) else g_X3_orders fu (i + 1) (m_X1_readOrder ω).2 (m_X3_carryOut σ (m_X1_readOrder ω).2).2) else (i, (m_X1_readOrder ω).2, σ)
def r_X3_orders (σ τ : Nat → Nat → Int32) : Nat × (Nat → Nat → Int32) × (Nat → Nat → Int32) := g_X3_orders 101 0 (s_X1_startReading (m_X1_faultOf τ).2) σ
def or_v (σ τ : Nat → Nat → Int32) : Int32 := if (m_X1_faultOf τ).1 = (-1) then nI (r_X3_orders σ τ).1 else (-4)
def or_ρ (ρ : Nat → Nat → Nat → Int32) (sp : Nat) (τ : Nat → Nat → Int32) : Nat → Nat → Nat → Int32 := if (m_X1_faultOf τ).1 = (-1) then rcρ ρ sp (r_X3_orders (ρ 0) τ).2.2 else ρ
def or_τ (σ τ : Nat → Nat → Int32) : Nat → Nat → Int32 := if (m_X1_faultOf τ).1 = (-1) then (r_X3_orders σ τ).2.1 else (m_X1_faultOf τ).2
theorem faultOf_okR {τ : Nat → Nat → Int32} (h : okX τ) : okR (m_X1_faultOf τ).2 := by
  have g : ∀ (fu i : Nat) (ω : Nat → Nat → Int32), okR ω → okR (g_X1_faultOf_6 τ fu i ω).2 := by
    intro fu
    induction fu with
    | zero => intro i ω h; exact h
    | succ fu ih =>
      intro i ω h
      rw [g_X1_faultOf_6]
      have r := readOrder_okR h
      refine ite_ind (fun z : MS => okR z.2) (fun _ => h) (fun _ => ite_ind (fun z : MS => okR z.2) (fun _ => h) (fun _ => ite_ind (fun z : MS => okR z.2) (fun _ => ?_) (fun _ => ?_)))
      · with_reducible exact ih _ _ r
      · with_reducible exact r
  unfold m_X1_faultOf
  exact g 102 0 (s_X1_startReading τ) (okR_0 h)
section X3b
variable {p : Program} {l : Launch} {e : Env} {R : Room} {s : State} {m : MethodId} {args : Array Value} {below : List Frame} {meth : Method} {c : Code} {H : Heap} {locs : List Loc} {cells slots : Nat} {Q : State → Prop} {cc : ByteArray} {maxL nL : Nat} {ret : Option FieldType} {own : String} {c0 : Cond} {pc : Nat} {ls : Array Slot} {rest st0 : List Value} {D : va_G} {cI cR : ClassId} {ad : Nat → Nat} {v : EN} {ρ : Nat → Nat → Nat → Int32} {sp kp : Nat} {τ : Nat → Nat → Int32}
theorem br_callQX {y : MethodName} {bytes : ByteArray} {mL n index : Nat} {rt : Option FieldType} {ws : List Cond} {rm : Room} {As : List Value} {w : Int32} {ρ' : Nat → Nat → Nat → Int32} {sp' kp' : Nat} {τ' : Nat → Nat → Int32} (hx : p.tables.exec = Jvm.exec) (hb : c.code = cc) (hml : c.maxLocals = nL) (hown : s.vm.findClass own = some m.cls) (hts : ∀ w ∈ c0 :: W0, w.before args s = true) (hK : brK D cI cR s) (hB : brH D cI cR ad ρ sp kp τ H) (hI : brI ad) (hS : va_S (brA ad) s.heap H locs) (hE : eE v (brA ad) s s.heap)
    (hM : Met l y ws rm (va_Pc (.ref (ad 300) :: As) (brX D cI cR ad v ρ sp kp τ)) (brQ D cI cR ad w ρ' sp' kp' τ') 0 0 (brA ad)) (cw : CallW R s args own RX3 index y bytes mL rt ws rm 0 0 n)
    (hn : As.length = n) (hsize : ls.size = nL) (hst : st0 = As.reverse ++ .ref (ad 300) :: rest) (hW : (rest.map fun v => v.category).sum ≤ 8) (d : decode cc pc = .ok (.invokevirtual index, 3)) (hc : cells ≤ R.cells) (hs : slots ≤ R.slots)
    (kk : ∀ (H1 : Heap) (locs1 : List Loc), brH D cI cR ad ρ' sp' kp' τ' H1 → va_S (brA ad) s.heap H1 locs1 → W p l e R s m args below meth c H1 locs1 cells slots Q (F0 m (pc + 3) ls (.int w :: rest))) : W p l e R s m args below meth c H locs cells slots Q (F0 m pc ls st0) := by
  refine br_step (va_runV (As := As) (rest := rest) ⟨hx, hb, hml, hown, hts⟩ hM cw ⟨brX_blind, br_recv hK hB, fun U hU hW => ⟨rfl, ⟨by rw [hU]; exact hB, va_K.moved hW.alike hK, hI⟩, eE_into hE hS hU hW⟩⟩ (g := F0 m pc ls st0) rfl hn hsize hst (lv_room hW) d ⟨hc, hs⟩) hS (fun q h => h) (fun v t st₀ H1 locs1 h0 ht hq mk => ?_)
  obtain ⟨hv, hp, hF⟩ := hq
  cases hv
  exact ⟨hF, fun hS1 => kk H1 locs1 (by rw [← ht]; exact hp) hS1⟩
end X3b

abbrev rm_X3_orders : Room := { frames := 8, cells := 0, slots := 0, locals := 172 }
set_option maxRecDepth 100000 in
theorem c_X3_orders (l : Launch) (D : va_G) (cI cR : ClassId) (ad : Nat → Nat) (v : EN) (ρ : Nat → Nat → Nat → Int32) (sp kp : Nat) (τ : Nat → Nat → Int32) (hsp : sp < 6) (hkp : kp ≤ 5) (hok : okS (ρ 0)) (hokx : okX τ) :
    Met l yX3_orders (Cond.code yX3_orders cX3_orders 2 (some .int) :: W0) rm_X3_orders (va_Pc [.ref (ad 300)] (brX D cI cR ad v ρ sp kp τ)) (brQ D cI cR ad (or_v (ρ 0) τ) (or_ρ ρ sp τ) (if (m_X1_faultOf τ).1 = (-1) then st_sp (nI (r_X3_orders (ρ 0) τ).1) sp else sp) (if (m_X1_faultOf τ).1 = (-1) then st_kp (nI (r_X3_orders (ρ 0) τ).1) kp else kp) (or_τ (ρ 0) τ)) 0 0 (brA ad) := by
  refine st_gen (cc := cX3_orders) (maxL := 2) (ret := some .int) (own := RX3) (by decide) rfl (Nat.le_of_ble_eq_true rfl) ?_
  intro p e s m below meth c ls C hPre hl
  obtain ⟨hx, hb, hr, hml, hown, hts, hlk⟩ := C
  obtain ⟨⟨hB, hK, hI⟩, hE⟩ := hPre
  have hS : va_S (brA ad) s.heap s.heap [] := va_S.rf
  have hl : lv_has ls 2 [(0, .ref (ad 300))] := hl
  refine lv_aload_n hx hb dX3_orders_0 rfl (lv_at hl 0 rfl) ?_
  refine br_g2 hx hb hts hown hK hB dX3_orders_1 ?_
  refine br_callTE (rest := []) hx hb hml hown hts hK hB hI hS hE.1 (c_X1_faultOf l D cI _ _ τ v.1 v.2.1 hokx) (kV_X1_faultOf hts ml_X3_126 ⟨(Nat.le_of_ble_eq_true rfl), (Nat.le_of_ble_eq_true rfl)⟩) rfl hl.1 rfl (Nat.le_of_ble_eq_true rfl) dX3_orders_4 (Nat.zero_le _) (Nat.zero_le _) (fun H locs hB hS => ?_)
  refine lv_iconst (v := (-1)) hx hb dX3_orders_7 (by decide) ?_
  refine lv_icmp_eq (tgt := 14) hx hb dX3_orders_8 (by decide) (fun cF => ?_) (fun cF => ?_)
  · refine lv_aload_n hx hb dX3_orders_14 rfl (lv_at hl 0 rfl) ?_
    refine br_g1 hx hb hts hown hK hB dX3_orders_15 ?_
    refine lv_aload_n hx hb dX3_orders_18 rfl (lv_at hl 0 rfl) ?_
    refine br_g0 hx hb hts hown hK hB dX3_orders_19 ?_
    refine br_callV (rest := []) hx hb hml hown hts hK hB hI hS (hi_recv hK hB) (c_X0_prepare l D cI cR ad ρ sp kp _ hsp) (kV_X0_prepare hts ml_X3_30 ⟨(Nat.le_of_ble_eq_true rfl), (Nat.le_of_ble_eq_true rfl)⟩) rfl hl.1 rfl (Nat.le_of_ble_eq_true rfl) dX3_orders_22 (Nat.zero_le _) (Nat.zero_le _) (fun H locs hB hS => ?_)
    refine lv_aload_n hx hb dX3_orders_25 rfl (lv_at hl 0 rfl) ?_
    refine br_g2 hx hb hts hown hK hB dX3_orders_26 ?_
    refine br_callTV (rest := []) hx hb hml hown hts hK hB hI hS (c_X1_startReading l D cI _ _ _) (kV_X1_startReading hts ml_X3_129 ⟨(Nat.le_of_ble_eq_true rfl), (Nat.le_of_ble_eq_true rfl)⟩) rfl hl.1 rfl (Nat.le_of_ble_eq_true rfl) dX3_orders_29 (Nat.zero_le _) (Nat.zero_le _) (fun H locs hB hS => ?_)
    refine lv_iconst (v := 0) hx hb dX3_orders_32 (by decide) ?_
    refine lv_istore_n (lv' := [(1, .int (nI 0)), (0, .ref (ad 300))]) hx hb dX3_orders_33 rfl hl (by decide) rfl (fun ls hl => ?_)
    have hR := okR_0 (okR_x (faultOf_okR hokx))
    have h3 : z3 (s_X1_startReading (m_X1_faultOf τ).2) := Or.inr rfl
    rw [← up_same (va_up ρ (sp + 1) (cpS (ρ 0) (ρ (sp + 1)))) 0 (ρ 0) rc_0] at hB
    have K_74 : ∀ (i : Nat) (ω σ : Nat → Nat → Int32), (i, ω, σ) = r_X3_orders (ρ 0) τ → ∀ (H : Heap) (locs : List Loc), brH D cI cR ad (va_up (va_up ρ (sp + 1) (cpS (ρ 0) (ρ (sp + 1)))) 0 σ) sp kp ω H → va_S (brA ad) s.heap H locs → ∀ ls, lv_has ls 2 [(0, .ref (ad 300)), (1, .int (nI i))] → W p l e rm_X3_orders s m ([.ref (ad 300)] : List Value).toArray below meth c H locs 0 0 (MQ below (brQ D cI cR ad (or_v (ρ 0) τ) (or_ρ ρ sp τ) (if (m_X1_faultOf τ).1 = (-1) then st_sp (nI (r_X3_orders (ρ 0) τ).1) sp else sp) (if (m_X1_faultOf τ).1 = (-1) then st_kp (nI (r_X3_orders (ρ 0) τ).1) kp else kp) (or_τ (ρ 0) τ)) ([.ref (ad 300)] : List Value).toArray s 0 0 (brA ad)) (F0 m 74 ls []) := by
      intro i ω σ er H locs hB hS ls hl
      refine lv_aload_n hx hb dX3_orders_74 rfl (lv_at hl 0 rfl) ?_
      refine br_g1 hx hb hts hown hK hB dX3_orders_75 ?_
      refine lv_iload_n hx hb dX3_orders_78 rfl (lv_at hl 1 rfl) ?_
      refine br_callQ (rest := []) hx hb hml hown hts hK hB hI hS (hi_recv hK hB) (c_X0_settle l D cI cR ad _ sp kp _ _ hsp hkp) (kV_X0_settle hts ml_X3_38 ⟨(Nat.le_of_ble_eq_true rfl), (Nat.le_of_ble_eq_true rfl)⟩) rfl hl.1 rfl (Nat.le_of_ble_eq_true rfl) dX3_orders_79 (Nat.zero_le _) (Nat.zero_le _) (fun H locs hB hS => ?_)
      refine br_fin hx hb hr hlk hB hS ?_ ?_ ?_ ?_ ?_ dX3_orders_82
      · unfold or_v; rw [if_pos cF, ← er]
      · unfold or_ρ; rw [if_pos cF, ← er]; rfl
      · rw [if_pos cF, ← er]
      · rw [if_pos cF, ← er]
      · unfold or_τ; rw [if_pos cF, ← er]
    have L_34 : ∀ (fu i : Nat) (ω σ : Nat → Nat → Int32), 100 - i < fu → i ≤ 100 → okS σ → okR ω → z3 ω → g_X3_orders fu i ω σ = r_X3_orders (ρ 0) τ → ∀ (H : Heap) (locs : List Loc), brH D cI cR ad (va_up (va_up ρ (sp + 1) (cpS (ρ 0) (ρ (sp + 1)))) 0 σ) sp kp ω H → va_S (brA ad) s.heap H locs → ∀ ls, lv_has ls 2 [(0, .ref (ad 300)), (1, .int (nI i))] → W p l e rm_X3_orders s m ([.ref (ad 300)] : List Value).toArray below meth c H locs 0 0 (MQ below (brQ D cI cR ad (or_v (ρ 0) τ) (or_ρ ρ sp τ) (if (m_X1_faultOf τ).1 = (-1) then st_sp (nI (r_X3_orders (ρ 0) τ).1) sp else sp) (if (m_X1_faultOf τ).1 = (-1) then st_kp (nI (r_X3_orders (ρ 0) τ).1) kp else kp) (or_τ (ρ 0) τ)) ([.ref (ad 300)] : List Value).toArray s 0 0 (brA ad)) (F0 m 34 ls []) := by
      intro fu
      induction fu with
      | zero => intro i ω σ hm; exact absurd hm (Nat.not_lt_zero _)
      | succ fu ih =>
        intro i ω σ hm hi hoks hokr hz3 hg H locs hB hS ls hl
        rw [g_X3_orders] at hg
        refine lv_iload_n hx hb dX3_orders_34 rfl (lv_at hl 1 rfl) ?_
        refine lv_bipush (v := 100) hx hb dX3_orders_35 (by decide) ?_
        refine lv_icmp_geN i 100 hx hb rfl rfl (by omega) (by omega) (tgt := 74) dX3_orders_37 (by decide) (fun c1 => ?_) (fun c1 => ?_)
        · rw [if_pos c1] at hg; exact K_74 i ω σ hg H locs hB hS ls hl
        rw [if_neg c1] at hg
        refine lv_aload_n hx hb dX3_orders_40 rfl (lv_at hl 0 rfl) ?_
        refine br_g2 hx hb hts hown hK hB dX3_orders_41 ?_
        refine tx_call (rest := []) hx hb hml hown hts (brK_1 hK) hB.2.2.1 (c_X1_hasMore l D cI _ _ ω hz3) (kV_X1_hasMore hts ml_X3_132 ⟨(Nat.le_of_ble_eq_true rfl), (Nat.le_of_ble_eq_true rfl)⟩) rfl hl.1 rfl (Nat.le_of_ble_eq_true rfl) dX3_orders_44 (Nat.zero_le _) (Nat.zero_le _) ?_
        refine lv_if_eq (tgt := 74) hx hb dX3_orders_47 (by decide) (fun c2 => ?_) (fun c2 => ?_)
        · rw [if_pos (show ω 3 0 = 0 from c2)] at hg; exact K_74 i ω σ hg H locs hB hS ls hl
        rw [if_neg (show ¬ ω 3 0 = 0 from c2)] at hg
        refine lv_aload_n hx hb dX3_orders_50 rfl (lv_at hl 0 rfl) ?_
        refine br_g2 hx hb hts hown hK hB dX3_orders_51 ?_
        refine br_callTE (rest := []) hx hb hml hown hts hK hB hI hS hE.1 (c_X1_readOrder l D cI _ _ ω v.1 v.2.1 hokr) (kV_X1_readOrder hts ml_X3_136 ⟨(Nat.le_of_ble_eq_true rfl), (Nat.le_of_ble_eq_true rfl)⟩) rfl hl.1 rfl (Nat.le_of_ble_eq_true rfl) dX3_orders_54 (Nat.zero_le _) (Nat.zero_le _) (fun H locs hB hS => ?_)
        refine lv_iconst (v := (-1)) hx hb dX3_orders_57 (by decide) ?_
        refine lv_icmp_ne (tgt := 74) hx hb dX3_orders_58 (by decide) (fun c3 => ?_) (fun c3 => ?_)
        · rw [if_neg c3] at hg; exact K_74 i _ σ hg H locs hB hS ls hl
        rw [if_pos c3] at hg
        refine lv_aload_n hx hb dX3_orders_61 rfl (lv_at hl 0 rfl) ?_
        refine br_callQX (rest := []) hx hb hml hown hts hK hB hI hS hE (c_X3_carryOut l D cI cR ad v _ sp kp _ (by rw [va_up_self]; exact hoks)) (kV_X3_carryOut hts ml_X3_139 ⟨(Nat.le_of_ble_eq_true rfl), (Nat.le_of_ble_eq_true rfl)⟩) rfl hl.1 rfl (Nat.le_of_ble_eq_true rfl) dX3_orders_62 (Nat.zero_le _) (Nat.zero_le _) (fun H locs hB hS => ?_)
        rw [va_up_self, up_up] at hB
        rw [va_up_self]
        refine lv_if_lt (tgt := 74) hx hb dX3_orders_65 (by decide) (fun c4 => ?_) (fun c4 => ?_)
        · rw [if_pos c4] at hg; exact K_74 i _ _ hg H locs hB hS ls hl
        rw [if_neg c4] at hg
        refine lv_iinc (v := nI (i + 1)) (lv' := [(1, .int (nI (i + 1))), (0, .ref (ad 300))]) hx hb dX3_orders_68 hl (k := 1) rfl (nI_c1 _) (by decide) rfl (fun ls hl => ?_)
        refine lv_goto (tgt := 34) hx hb dX3_orders_71 (by decide) ?_
        exact ih (i + 1) _ _ (by omega) (by omega) (carryOut_ok hoks) (readOrder_okR hokr) (readOrder_3 hz3) hg H locs hB hS ls (lv_sub hl [1, 0] rfl)
    exact L_34 101 0 _ _ (by omega) (by omega) hok hR h3 rfl H locs hB hS ls (lv_sub hl [1, 0] rfl)
  refine lv_bipush (v := (-4)) hx hb dX3_orders_11 (by decide) ?_
  refine br_fin hx hb hr hlk hB hS ?_ ?_ ?_ ?_ ?_ dX3_orders_13
  · unfold or_v; rw [if_neg cF]
  · unfold or_ρ; rw [if_neg cF]
  · rw [if_neg cF]
  · rw [if_neg cF]
  · unfold or_τ; rw [if_neg cF]

theorem kV_X3_orders {R : Room} {s : State} {args : Array Value} {own : String} {idx : Nat} {c0 : Cond} (hts : ∀ w ∈ c0 :: W0, w.before args s = true) (hl : Cond.methodLink own idx yX3_orders ∈ W0) (hR : rm_X3_orders.frames + 1 ≤ R.frames ∧ 8 + (2 + 11) + rm_X3_orders.locals ≤ R.locals) : CallW R s args own RX3 idx yX3_orders cX3_orders 2 (some .int) (Cond.code yX3_orders cX3_orders 2 (some .int) :: W0) rm_X3_orders 0 0 0 := cwV 0 hts (gdV hl mi_yX3_orders ms_yX3_orders mini_X3 mc_yX3_orders) rfl rfl rfl (by decide +kernel) hR

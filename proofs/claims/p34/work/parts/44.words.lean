section TXE
variable {p : Program} {l : Launch} {e : Env} {R : Room} {s : State} {m : MethodId} {args : Array Value} {below : List Frame} {meth : Method} {c : Code} {H : Heap} {locs : List Loc} {cells slots : Nat} {Q : State → Prop} {cc : ByteArray} {maxL nL : Nat} {ret : Option FieldType} {own : String} {c0 : Cond} {pc : Nat} {ls : Array Slot} {rest st0 : List Value} {D : va_G} {cI : ClassId} {o : Nat} {a : Nat → Nat} {τ : Nat → Nat → Int32} {adK adV : Nat → Nat}
theorem tx_blindE {av : List Value} {D : va_G} {cI : ClassId} {o : Nat} {a : Nat → Nat} {τ : Nat → Nat → Int32} {adK adV : Nat → Nat} {A : Nat → Prop} : FrameBlind (va_Pc av (fun U => txP D cI o a τ U ∧ sE adK adV A U U.heap)) := fun b U g mk q => ⟨q.1, ⟨q.2.1.1, va_K.moved (u := U) (U := U.calling g mk b) (Vm.Alike.refl U.vm) q.2.1.2⟩, sE_same (u := U) (U := U.calling g mk b) rfl q.2.2⟩
theorem tx_blindME {av : List Value} {D : va_G} {cI : ClassId} {o : Nat} {a : Nat → Nat} {τ : Nat → Nat → Int32} {adK adV : Nat → Nat} {A : Nat → Prop} : FrameBlind (va_Pc av (fun U => txM D cI o a τ U ∧ sE adK adV A U U.heap)) := fun b U g mk q => ⟨q.1, ⟨⟨q.2.1.1.1, va_K.moved (u := U) (U := U.calling g mk b) (Vm.Alike.refl U.vm) q.2.1.1.2⟩, q.2.1.2⟩, sE_same (u := U) (U := U.calling g mk b) rfl q.2.2⟩
theorem tx_callE {y : MethodName} {bytes : ByteArray} {mL n index : Nat} {rt : Option FieldType} {ws : List Cond} {rm : Room} {As : List Value} {v : Int32} (hx : p.tables.exec = Jvm.exec) (hb : c.code = cc) (hml : c.maxLocals = nL) (hown : s.vm.findClass own = some m.cls) (hts : ∀ w ∈ c0 :: W0, w.before args s = true) (hK : va_K D vwCl [(cI, .int)] s) (hP : va_P D vwCl (txW cI o a τ) H) (hE : sE adK adV (txA o a) s s.heap) (hS : va_S (txA o a) s.heap H locs)
    (hM : Met l y ws rm (va_Pc (.ref o :: As) (fun U => txP D cI o a τ U ∧ sE adK adV (txA o a) U U.heap)) (vp_Si (fun r => r = v)) 0 0 (fun _ => False)) (cw : CallW R s args own RX1 index y bytes mL rt ws rm 0 0 n)
    (hn : As.length = n) (hsize : ls.size = nL) (hst : st0 = As.reverse ++ .ref o :: rest) (hW : (rest.map fun v => v.category).sum ≤ 8) (d : decode cc pc = .ok (.invokevirtual index, 3)) (hc : cells ≤ R.cells) (hs : slots ≤ R.slots)
    (kk : W p l e R s m args below meth c H locs cells slots Q (F0 m (pc + 3) ls (.int v :: rest))) : W p l e R s m args below meth c H locs cells slots Q (F0 m pc ls st0) :=
  cl_Si (va_runV (As := As) (rest := rest) ⟨hx, hb, hml, hown, hts⟩ hM cw ⟨tx_blindE, va_recv (ci := 1) (q0 := 0) hK hP rfl rfl, fun U hU hW => ⟨rfl, ⟨by rw [hU]; exact hP, va_K.moved hW.alike hK⟩, sE_into hE hS hU hW⟩⟩ rfl hn hsize hst (lv_room hW) d ⟨hc, hs⟩) kk
theorem tx_callME {y : MethodName} {bytes : ByteArray} {mL n index : Nat} {rt : Option FieldType} {ws : List Cond} {rm : Room} {As : List Value} {w : Int32 × (Nat → Nat → Int32)} (hx : p.tables.exec = Jvm.exec) (hb : c.code = cc) (hml : c.maxLocals = nL) (hown : s.vm.findClass own = some m.cls) (hts : ∀ w ∈ c0 :: W0, w.before args s = true) (hK : va_K D vwCl [(cI, .int)] s) (hP : va_P D vwCl (txW cI o a τ) H) (hD : txD o a) (hS : va_S (txA o a) s.heap H locs) (hE : sE adK adV (txA o a) s s.heap)
    (hM : Met l y ws rm (va_Pc (.ref o :: As) (fun U => txM D cI o a τ U ∧ sE adK adV (txA o a) U U.heap)) (txQ D cI o a w) 0 0 (txA o a)) (cw : CallW R s args own RX1 index y bytes mL rt ws rm 0 0 n)
    (hn : As.length = n) (hsize : ls.size = nL) (hst : st0 = As.reverse ++ .ref o :: rest) (hW : (rest.map fun v => v.category).sum ≤ 8) (d : decode cc pc = .ok (.invokevirtual index, 3)) (hc : cells ≤ R.cells) (hs : slots ≤ R.slots)
    (kk : ∀ (H1 : Heap) (locs1 : List Loc), va_P D vwCl (txW cI o a w.2) H1 → va_S (txA o a) s.heap H1 locs1 → W p l e R s m args below meth c H1 locs1 cells slots Q (F0 m (pc + 3) ls (.int w.1 :: rest))) : W p l e R s m args below meth c H locs cells slots Q (F0 m pc ls st0) := by
  have hr := va_runV (As := As) (rest := rest) (locs := locs) (slots := slots) (below := below) (meth := meth) (p := p) (e := e) ⟨hx, hb, hml, hown, hts⟩ hM cw ⟨tx_blindME, va_recv (ci := 1) (q0 := 0) hK hP rfl rfl, fun U hU hW => ⟨rfl, ⟨⟨by rw [hU]; exact hP, va_K.moved hW.alike hK⟩, hD⟩, sE_into hE hS hU hW⟩⟩ (g := F0 m pc ls st0) rfl hn hsize hst (lv_room hW) d ⟨hc, hs⟩
  intro T hT X
  obtain ⟨v1, st₀, t, T', L, h0, X', hL, e1, e2, ⟨hv, hp, hF⟩, st⟩ := hr T hT X
  cases hv
  obtain ⟨t2, a1, b1⟩ := kk T'.heap (locs ++ L) (by rw [e1]; exact hp.1) ⟨Nat.le_trans hS.1 (by rw [e1, ← h0]; exact hF.1), fun q h1 h2 => by rw [e1, hF.2 q (by rw [h0]; exact Nat.lt_of_lt_of_le h1 hS.1) h2, h0]; exact hS.2.1 q h1 h2, fun q hq => by
      rcases List.mem_append.mp hq with h | h
      · exact hS.2.2 q h
      · exact hL q h⟩ T' rfl X'
  exact ⟨t2, st t2 a1, b1⟩
end TXE

/-! X1.stands -/
def g_X1_stands_17 (τ : Nat → Nat → Int32) (k : Nat) (q : Nat) : Nat → (Nat) → Int32
  | 0, i => 0
  | fu + 1, i => (if (sLen.getD k 0) ≤ i then 1 else (if xl τ ≤ (q + i) then 1 else (if (τ 0 (q + i)) = (sCh k i) then g_X1_stands_17 τ k q fu (i + 1) else 0)))
def f_X1_stands (τ : Nat → Nat → Int32) (k : Nat) (q : Nat) : Int32 := (if (sLen.getD k 0) = (xa τ - q) then g_X1_stands_17 τ k q 5 0 else 0)
abbrev rm_X1_stands : Room := { frames := 4, cells := 0, slots := 0, locals := 85 }
set_option maxRecDepth 100000 in
theorem c_X1_stands (l : Launch) (D : va_G) (cI : ClassId) (o : Nat) (a : Nat → Nat) (τ : Nat → Nat → Int32) (adK adV : Nat → Nat) (k : Nat) (hw5 : k < 5) (x : Int32) (q : Nat) (hx : x = nI q) (hokr : okR τ) (hqa : q ≤ xa τ) :
    Met l yX1_stands (Cond.code yX1_stands cX1_stands 4 (some .boolean) :: W0) rm_X1_stands (va_Pc [.ref o, .ref (adK k), .int x] (fun U => txP D cI o a τ U ∧ sE adK adV (txA o a) U U.heap)) (vp_Si (fun r => r = f_X1_stands τ k q)) 0 0 (fun _ => False) := by
  subst hx
  refine st_gen (cc := cX1_stands) (maxL := 4) (ret := some .boolean) (own := RX1) (by decide) rfl (Nat.le_of_ble_eq_true rfl) ?_
  intro p e s m below meth c ls C hPre hl
  obtain ⟨hx, hb, hr, hml, hown, hts, hlk⟩ := C
  obtain ⟨hPre, hE⟩ := hPre
  have hS : va_S (txA o a) s.heap s.heap [] := va_S.rf
  obtain ⟨hP, hK⟩ := hPre
  have hl : lv_has ls 4 [(0, .ref (o)), (1, .ref (adK k)), (2, .int (nI q))] := hl
  have hxab := (okR_a hokr).2
  have hxlb := (okX_l (okR_x hokr)).2
  refine lv_aload_n hx hb dX1_stands_0 rfl (lv_at hl 1 rfl) ?_
  refine st_callV k hw5 (rest := []) hx hb hml hown hts hE hS (c_J0_length l adK adV _ k hw5) (kV_J0_length hts ml_X1_75 ⟨(Nat.le_of_ble_eq_true rfl), (Nat.le_of_ble_eq_true rfl)⟩) rfl hl.1 rfl (Nat.le_of_ble_eq_true rfl) dX1_stands_1 (Nat.zero_le _) (Nat.zero_le _) ?_
  refine lv_aload_n hx hb dX1_stands_4 rfl (lv_at hl 0 rfl) ?_
  refine tx_g2 hx hb hts hown hK hP (v := τ 2 0) rfl dX1_stands_5 ?_
  refine lv_iload_n hx hb dX1_stands_8 rfl (lv_at hl 2 rfl) ?_
  refine lv_isubN (x := xa τ) (y := q) hx hb (okR_a (τ := τ) (by with_reducible first | assumption | exact okR_4 (by with_reducible assumption) | exact okR_5 (by with_reducible assumption) | exact okR_6 (by with_reducible assumption) | exact okR_3 (by with_reducible assumption))).1 rfl (by omega) dX1_stands_9 ?_
  have := sLen_le k
  refine lv_icmp_eqN ((sLen.getD k 0)) ((xa τ - q)) hx hb rfl rfl (by omega) (by omega) (tgt := 15) dX1_stands_10 (by decide) (fun c_10 => ?_) (fun c_10 => ?_)
  · refine lv_iconst (v := 0) hx hb dX1_stands_15 (by decide) ?_
    refine lv_istore_n (lv' := [(3, .int (0)), (0, .ref (o)), (1, .ref (adK k)), (2, .int (nI q))]) hx hb dX1_stands_16 rfl hl (by decide) rfl (fun ls hl => ?_)
    have ho_17 : g_X1_stands_17 τ k q 5 0 = f_X1_stands τ k q := (br_p c_10 rfl)
    have L_17 : ∀ (fu : Nat) (i : Nat), sLen.getD k 0 - i < fu → i ≤ 4 → g_X1_stands_17 τ k q fu i = g_X1_stands_17 τ k q 5 0 → ∀ ls, lv_has ls 4 [(0, .ref (o)), (1, .ref (adK k)), (2, .int (nI q)), (3, .int (nI i))] → W p l e rm_X1_stands s m (([.ref (o), .ref (adK k), .int (nI q)] : List Value).toArray) below meth c s.heap [] 0 0 (MQ below (vp_Si (fun r => r = f_X1_stands τ k q)) ([.ref (o), .ref (adK k), .int (nI q)] : List Value).toArray s 0 0 (fun _ => False)) (F0 m 17 ls []) := by
      intro fu
      induction fu with
      | zero => intro i hm; exact absurd hm (Nat.not_lt_zero _)
      | succ fu ih =>
        intro i hm hi4 hg_17 ls hl
        refine lv_iload_n hx hb dX1_stands_17 rfl (lv_at hl 3 rfl) ?_
        refine lv_aload_n hx hb dX1_stands_18 rfl (lv_at hl 1 rfl) ?_
        refine st_callV k hw5 (rest := [.int (nI i)]) hx hb hml hown hts hE hS (c_J0_length l adK adV _ k hw5) (kV_J0_length hts ml_X1_75 ⟨(Nat.le_of_ble_eq_true rfl), (Nat.le_of_ble_eq_true rfl)⟩) rfl hl.1 rfl (Nat.le_of_ble_eq_true rfl) dX1_stands_19 (Nat.zero_le _) (Nat.zero_le _) ?_
        have := sLen_le k
        refine lv_icmp_geN (i) ((sLen.getD k 0)) hx hb rfl rfl (by omega) (by omega) (tgt := 59) dX1_stands_22 (by decide) (fun c_22 => ?_) (fun c_22 => ?_)
        · refine lv_iconst (v := 1) hx hb dX1_stands_59 (by decide) ?_
          exact fin_z hx hb hr hlk (Or.inr rfl) (((br_p c_22 rfl) : _ = g_X1_stands_17 τ k q (fu + 1) i).trans (hg_17.trans ho_17)) dX1_stands_60
        refine lv_iload_n hx hb dX1_stands_25 rfl (lv_at hl 2 rfl) ?_
        refine lv_iload_n hx hb dX1_stands_26 rfl (lv_at hl 3 rfl) ?_
        refine lv_iaddN (x := q) (y := i) hx hb rfl rfl dX1_stands_27 ?_
        refine lv_aload_n hx hb dX1_stands_28 rfl (lv_at hl 0 rfl) ?_
        refine tx_g1 hx hb hts hown hK hP (v := τ 1 0) rfl dX1_stands_29 ?_
        have := (okX_l (τ := τ) (by with_reducible first | assumption | exact okR_x (by with_reducible assumption))).2
        refine lv_icmp_geN ((q + i)) (xl τ) hx hb rfl (okX_l (τ := τ) (by with_reducible first | assumption | exact okR_x (by with_reducible assumption))).1 (by omega) (by omega) (tgt := 59) dX1_stands_32 (by decide) (fun c_32 => ?_) (fun c_32 => ?_)
        · refine lv_iconst (v := 1) hx hb dX1_stands_59 (by decide) ?_
          exact fin_z hx hb hr hlk (Or.inr rfl) (((br_n c_22 (br_p c_32 rfl)) : _ = g_X1_stands_17 τ k q (fu + 1) i).trans (hg_17.trans ho_17)) dX1_stands_60
        refine lv_aload_n hx hb dX1_stands_35 rfl (lv_at hl 0 rfl) ?_
        refine tx_g0 hx hb hts hown hK hP dX1_stands_36 ?_
        refine lv_iload_n hx hb dX1_stands_39 rfl (lv_at hl 2 rfl) ?_
        refine lv_iload_n hx hb dX1_stands_40 rfl (lv_at hl 3 rfl) ?_
        refine lv_iaddN (x := q) (y := i) hx hb rfl rfl dX1_stands_41 ?_
        refine tx_r0 hx hb hK hP ((q + i)) rfl (by omega) (v := τ 0 (q + i)) rfl dX1_stands_42 ?_
        refine lv_aload_n hx hb dX1_stands_43 rfl (lv_at hl 1 rfl) ?_
        refine lv_iload_n hx hb dX1_stands_44 rfl (lv_at hl 3 rfl) ?_
        refine st_callV k hw5 (rest := [.int (τ 0 (q + i))]) hx hb hml hown hts hE hS (c_J0_charAt l adK adV _ k i hw5 (by omega)) (kV_J0_charAt hts ml_X1_79 ⟨(Nat.le_of_ble_eq_true rfl), (Nat.le_of_ble_eq_true rfl)⟩) rfl hl.1 rfl (Nat.le_of_ble_eq_true rfl) dX1_stands_45 (Nat.zero_le _) (Nat.zero_le _) ?_
        refine lv_icmp_eq (tgt := 53) hx hb dX1_stands_48 (by decide) (fun c_48 => ?_) (fun c_48 => ?_)
        · refine lv_iinc (v := nI (i + 1)) (lv' := [(3, .int (nI (i + 1))), (0, .ref (o)), (1, .ref (adK k)), (2, .int (nI q))]) hx hb dX1_stands_53 hl (k := 3) rfl (nI_c1 _) (by decide) rfl (fun ls hl => ?_)
          refine lv_goto (tgt := 17) hx hb dX1_stands_56 (by decide) ?_
          exact ih (i + 1) (by omega) (by omega) (((br_n c_22 (br_n c_32 (br_p c_48 rfl))) : g_X1_stands_17 τ k q fu (i + 1) = g_X1_stands_17 τ k q (fu + 1) i).trans hg_17) ls (lv_sub hl [1, 2, 3, 0] rfl)
        refine lv_iconst (v := 0) hx hb dX1_stands_51 (by decide) ?_
        exact fin_z hx hb hr hlk (Or.inl rfl) (((br_n c_22 (br_n c_32 (br_n c_48 rfl))) : _ = g_X1_stands_17 τ k q (fu + 1) i).trans (hg_17.trans ho_17)) dX1_stands_52
    have hs4 := sLen_le k
    exact L_17 5 0 (by omega) (by omega) rfl ls (lv_sub hl [1, 2, 3, 0] rfl)
  refine lv_iconst (v := 0) hx hb dX1_stands_13 (by decide) ?_
  exact fin_z hx hb hr hlk (Or.inl rfl) (br_n c_10 rfl) dX1_stands_14
theorem kV_X1_stands {R : Room} {s : State} {args : Array Value} {own : String} {idx : Nat} {c0 : Cond} (hts : ∀ w ∈ c0 :: W0, w.before args s = true) (hl : Cond.methodLink own idx yX1_stands ∈ W0) (hR : rm_X1_stands.frames + 1 ≤ R.frames ∧ 8 + (4 + 11) + rm_X1_stands.locals ≤ R.locals) : CallW R s args own RX1 idx yX1_stands cX1_stands 4 (some .boolean) (Cond.code yX1_stands cX1_stands 4 (some .boolean) :: W0) rm_X1_stands 0 0 2 := cwV 2 hts (gdV hl mi_yX1_stands ms_yX1_stands mini_X1 mc_yX1_stands) rfl rfl rfl (by decide +kernel) hR

theorem z_g_X1_stands_17 {τ : Nat → Nat → Int32} {k : Nat} {q : Nat} : ∀ (fu : Nat) (i : Nat), g_X1_stands_17 τ k q fu i = 0 ∨ g_X1_stands_17 τ k q fu i = 1 := by
  intro fu
  induction fu with
  | zero => intros; exact Or.inl rfl
  | succ fu ih =>
    intros
    rw [g_X1_stands_17]
    (repeat' split) <;> first | exact Or.inl rfl | exact Or.inr rfl | exact ih ..

theorem z_X1_stands {τ : Nat → Nat → Int32} {k : Nat} {q : Nat} : f_X1_stands τ k q = 0 ∨ f_X1_stands τ k q = 1 := by
  unfold f_X1_stands
  (repeat' split) <;> first | exact Or.inl rfl | exact Or.inr rfl | exact z_g_X1_stands_17 ..

/-! X1.readWord -/
def g_X1_readWord_5 (τ : Nat → Nat → Int32) : Nat → (Nat → Nat → Int32) → (Nat → Nat → Int32)
  | 0, ω => ω
  | fu + 1, ω => (if xl ω ≤ xa ω then ω else (if (ω 0 (xa ω)) < 97 then ω else (if 122 < (ω 0 (xa ω)) then ω else g_X1_readWord_5 τ fu (shS ω 2 ((ω 2 0) + 1)))))
def m_X1_readWord (τ : Nat → Nat → Int32) : Int32 × (Nat → Nat → Int32) := (if (f_X1_stands (g_X1_readWord_5 τ 101 τ) 0 (xa τ)) = 0 then (if (f_X1_stands (g_X1_readWord_5 τ 101 τ) 1 (xa τ)) = 0 then (if (f_X1_stands (g_X1_readWord_5 τ 101 τ) 2 (xa τ)) = 0 then (if (f_X1_stands (g_X1_readWord_5 τ 101 τ) 3 (xa τ)) = 0 then (if (f_X1_stands (g_X1_readWord_5 τ 101 τ) 4 (xa τ)) = 0 then ((-1), (g_X1_readWord_5 τ 101 τ)) else (4, (g_X1_readWord_5 τ 101 τ))) else (3, (g_X1_readWord_5 τ 101 τ))) else (2, (g_X1_readWord_5 τ 101 τ))) else (1, (g_X1_readWord_5 τ 101 τ))) else (0, (g_X1_readWord_5 τ 101 τ)))
abbrev rm_X1_readWord : Room := { frames := 5, cells := 0, slots := 0, locals := 108 }
theorem readWord_g {τ : Nat → Nat → Int32} : ∀ (fu : Nat) (ω : Nat → Nat → Int32), okR ω → okR (g_X1_readWord_5 τ fu ω) ∧ (g_X1_readWord_5 τ fu ω) 1 = ω 1 ∧ xa ω ≤ xa (g_X1_readWord_5 τ fu ω) := by
  intro fu
  induction fu with
  | zero => intro ω h; exact ⟨h, rfl, Nat.le_refl _⟩
  | succ fu ih =>
    intro ω h
    rw [g_X1_readWord_5]
    (repeat' split) <;> first
      | exact ⟨h, rfl, Nat.le_refl _⟩
      | (have k := incX_ok h (by omega)
         exact ⟨(ih _ k.1).1, (ih _ k.1).2.1.trans rfl, by have := (ih _ k.1).2.2; omega⟩)
set_option maxRecDepth 100000 in
theorem c_X1_readWord (l : Launch) (D : va_G) (cI : ClassId) (o : Nat) (a : Nat → Nat) (τ : Nat → Nat → Int32) (adK adV : Nat → Nat) (hokr : okR τ) :
    Met l yX1_readWord (Cond.code yX1_readWord cX1_readWord 2 (some .int) :: W0) rm_X1_readWord (va_Pc [.ref o] (fun U => txM D cI o a τ U ∧ sE adK adV (txA o a) U U.heap)) (txQ D cI o a (m_X1_readWord τ)) 0 0 (txA o a) := by
  refine st_gen (cc := cX1_readWord) (maxL := 2) (ret := some .int) (own := RX1) (by decide) rfl (Nat.le_of_ble_eq_true rfl) ?_
  intro p e s m below meth c ls C hPre hl
  obtain ⟨hx, hb, hr, hml, hown, hts, hlk⟩ := C
  obtain ⟨hPre, hE⟩ := hPre
  obtain ⟨⟨hP, hK⟩, hD⟩ := hPre
  have hS : va_S (txA o a) s.heap s.heap [] := va_S.rf
  have hl : lv_has ls 2 [(0, .ref (o))] := hl
  have hxab := (okR_a hokr).2
  have hxlb := (okX_l (okR_x hokr)).2
  refine lv_aload_n hx hb dX1_readWord_0 rfl (lv_at hl 0 rfl) ?_
  refine tx_g2 hx hb hts hown hK hP (v := τ 2 0) rfl dX1_readWord_1 ?_
  refine lv_istore_n (lv' := [(1, .int (τ 2 0)), (0, .ref (o))]) hx hb dX1_readWord_4 rfl hl (by decide) rfl (fun ls hl => ?_)
  have K_57 : ∀ (H : Heap) (locs : List Loc), va_P D vwCl (txW cI o a (g_X1_readWord_5 τ 101 τ)) H → va_S (txA o a) s.heap H locs → ∀ ls, lv_has ls 2 [(1, .int (τ 2 0)), (0, .ref (o))] → W p l e rm_X1_readWord s m (([.ref (o)] : List Value).toArray) below meth c H locs 0 0 (MQ below (txQ D cI o a (m_X1_readWord τ)) ([.ref (o)] : List Value).toArray s 0 0 (txA o a)) (F0 m 57 ls []) := by
    intro H locs hP hS ls hl
    have hrw := readWord_g (τ := τ) 101 τ hokr
    have hokr3 := hrw.1
    have hqa3 := hrw.2.2
    refine lv_aload_n hx hb dX1_readWord_57 rfl (lv_at hl 1 rfl) ?_
    refine va_ldcS hx hb hown (show vk_R RX1 61 "rent" (adK 0) s from hE.2.2.2 0 (by decide)) dX1_readWord_58 ?_
    refine lv_iload_n hx hb dX1_readWord_60 rfl (lv_at hl 0 rfl) ?_
    have := (okR_a (τ := τ) (by with_reducible first | assumption | exact okR_4 (by with_reducible assumption) | exact okR_5 (by with_reducible assumption) | exact okR_6 (by with_reducible assumption) | exact okR_3 (by with_reducible assumption))).2
    have := (okX_l (τ := τ) (by with_reducible first | assumption | exact okR_x (by with_reducible first | assumption | exact okR_4 (by with_reducible assumption) | exact okR_5 (by with_reducible assumption) | exact okR_6 (by with_reducible assumption) | exact okR_3 (by with_reducible assumption)))).2
    refine tx_callE (rest := []) hx hb hml hown hts hK hP hE hS (c_X1_stands l D cI o a (g_X1_readWord_5 τ 101 τ) adK adV 0 (by decide) (τ 2 0) (xa τ) ((okR_a (τ := τ) (by with_reducible first | assumption | exact okR_4 (by with_reducible assumption) | exact okR_5 (by with_reducible assumption) | exact okR_6 (by with_reducible assumption) | exact okR_3 (by with_reducible assumption))).1) (by with_reducible first | assumption | exact okR_4 (by with_reducible assumption) | exact okR_5 (by with_reducible assumption) | exact okR_6 (by with_reducible assumption) | exact okR_3 (by with_reducible assumption)) (by with_reducible assumption)) (kV_X1_stands hts ml_X1_63 ⟨(Nat.le_of_ble_eq_true rfl), (Nat.le_of_ble_eq_true rfl)⟩) rfl hl.1 rfl (Nat.le_of_ble_eq_true rfl) dX1_readWord_61 (Nat.zero_le _) (Nat.zero_le _) ?_
    refine lv_if_eq (tgt := 69) hx hb dX1_readWord_64 (by decide) (fun c_64 => ?_) (fun c_64 => ?_)
    · refine lv_aload_n hx hb dX1_readWord_69 rfl (lv_at hl 1 rfl) ?_
      refine va_ldcS hx hb hown (show vk_R RX1 67 "back" (adK 1) s from hE.2.2.2 1 (by decide)) dX1_readWord_70 ?_
      refine lv_iload_n hx hb dX1_readWord_72 rfl (lv_at hl 0 rfl) ?_
      have := (okR_a (τ := τ) (by with_reducible first | assumption | exact okR_4 (by with_reducible assumption) | exact okR_5 (by with_reducible assumption) | exact okR_6 (by with_reducible assumption) | exact okR_3 (by with_reducible assumption))).2
      have := (okX_l (τ := τ) (by with_reducible first | assumption | exact okR_x (by with_reducible first | assumption | exact okR_4 (by with_reducible assumption) | exact okR_5 (by with_reducible assumption) | exact okR_6 (by with_reducible assumption) | exact okR_3 (by with_reducible assumption)))).2
      refine tx_callE (rest := []) hx hb hml hown hts hK hP hE hS (c_X1_stands l D cI o a (g_X1_readWord_5 τ 101 τ) adK adV 1 (by decide) (τ 2 0) (xa τ) ((okR_a (τ := τ) (by with_reducible first | assumption | exact okR_4 (by with_reducible assumption) | exact okR_5 (by with_reducible assumption) | exact okR_6 (by with_reducible assumption) | exact okR_3 (by with_reducible assumption))).1) (by with_reducible first | assumption | exact okR_4 (by with_reducible assumption) | exact okR_5 (by with_reducible assumption) | exact okR_6 (by with_reducible assumption) | exact okR_3 (by with_reducible assumption)) (by with_reducible assumption)) (kV_X1_stands hts ml_X1_63 ⟨(Nat.le_of_ble_eq_true rfl), (Nat.le_of_ble_eq_true rfl)⟩) rfl hl.1 rfl (Nat.le_of_ble_eq_true rfl) dX1_readWord_73 (Nat.zero_le _) (Nat.zero_le _) ?_
      refine lv_if_eq (tgt := 81) hx hb dX1_readWord_76 (by decide) (fun c_76 => ?_) (fun c_76 => ?_)
      · refine lv_aload_n hx hb dX1_readWord_81 rfl (lv_at hl 1 rfl) ?_
        refine va_ldcS hx hb hown (show vk_R RX1 69 "buy" (adK 2) s from hE.2.2.2 2 (by decide)) dX1_readWord_82 ?_
        refine lv_iload_n hx hb dX1_readWord_84 rfl (lv_at hl 0 rfl) ?_
        have := (okR_a (τ := τ) (by with_reducible first | assumption | exact okR_4 (by with_reducible assumption) | exact okR_5 (by with_reducible assumption) | exact okR_6 (by with_reducible assumption) | exact okR_3 (by with_reducible assumption))).2
        have := (okX_l (τ := τ) (by with_reducible first | assumption | exact okR_x (by with_reducible first | assumption | exact okR_4 (by with_reducible assumption) | exact okR_5 (by with_reducible assumption) | exact okR_6 (by with_reducible assumption) | exact okR_3 (by with_reducible assumption)))).2
        refine tx_callE (rest := []) hx hb hml hown hts hK hP hE hS (c_X1_stands l D cI o a (g_X1_readWord_5 τ 101 τ) adK adV 2 (by decide) (τ 2 0) (xa τ) ((okR_a (τ := τ) (by with_reducible first | assumption | exact okR_4 (by with_reducible assumption) | exact okR_5 (by with_reducible assumption) | exact okR_6 (by with_reducible assumption) | exact okR_3 (by with_reducible assumption))).1) (by with_reducible first | assumption | exact okR_4 (by with_reducible assumption) | exact okR_5 (by with_reducible assumption) | exact okR_6 (by with_reducible assumption) | exact okR_3 (by with_reducible assumption)) (by with_reducible assumption)) (kV_X1_stands hts ml_X1_63 ⟨(Nat.le_of_ble_eq_true rfl), (Nat.le_of_ble_eq_true rfl)⟩) rfl hl.1 rfl (Nat.le_of_ble_eq_true rfl) dX1_readWord_85 (Nat.zero_le _) (Nat.zero_le _) ?_
        refine lv_if_eq (tgt := 93) hx hb dX1_readWord_88 (by decide) (fun c_88 => ?_) (fun c_88 => ?_)
        · refine lv_aload_n hx hb dX1_readWord_93 rfl (lv_at hl 1 rfl) ?_
          refine va_ldcS hx hb hown (show vk_R RX1 71 "sell" (adK 3) s from hE.2.2.2 3 (by decide)) dX1_readWord_94 ?_
          refine lv_iload_n hx hb dX1_readWord_96 rfl (lv_at hl 0 rfl) ?_
          have := (okR_a (τ := τ) (by with_reducible first | assumption | exact okR_4 (by with_reducible assumption) | exact okR_5 (by with_reducible assumption) | exact okR_6 (by with_reducible assumption) | exact okR_3 (by with_reducible assumption))).2
          have := (okX_l (τ := τ) (by with_reducible first | assumption | exact okR_x (by with_reducible first | assumption | exact okR_4 (by with_reducible assumption) | exact okR_5 (by with_reducible assumption) | exact okR_6 (by with_reducible assumption) | exact okR_3 (by with_reducible assumption)))).2
          refine tx_callE (rest := []) hx hb hml hown hts hK hP hE hS (c_X1_stands l D cI o a (g_X1_readWord_5 τ 101 τ) adK adV 3 (by decide) (τ 2 0) (xa τ) ((okR_a (τ := τ) (by with_reducible first | assumption | exact okR_4 (by with_reducible assumption) | exact okR_5 (by with_reducible assumption) | exact okR_6 (by with_reducible assumption) | exact okR_3 (by with_reducible assumption))).1) (by with_reducible first | assumption | exact okR_4 (by with_reducible assumption) | exact okR_5 (by with_reducible assumption) | exact okR_6 (by with_reducible assumption) | exact okR_3 (by with_reducible assumption)) (by with_reducible assumption)) (kV_X1_stands hts ml_X1_63 ⟨(Nat.le_of_ble_eq_true rfl), (Nat.le_of_ble_eq_true rfl)⟩) rfl hl.1 rfl (Nat.le_of_ble_eq_true rfl) dX1_readWord_97 (Nat.zero_le _) (Nat.zero_le _) ?_
          refine lv_if_eq (tgt := 105) hx hb dX1_readWord_100 (by decide) (fun c_100 => ?_) (fun c_100 => ?_)
          · refine lv_aload_n hx hb dX1_readWord_105 rfl (lv_at hl 1 rfl) ?_
            refine va_ldcS hx hb hown (show vk_R RX1 73 "wait" (adK 4) s from hE.2.2.2 4 (by decide)) dX1_readWord_106 ?_
            refine lv_iload_n hx hb dX1_readWord_108 rfl (lv_at hl 0 rfl) ?_
            have := (okR_a (τ := τ) (by with_reducible first | assumption | exact okR_4 (by with_reducible assumption) | exact okR_5 (by with_reducible assumption) | exact okR_6 (by with_reducible assumption) | exact okR_3 (by with_reducible assumption))).2
            have := (okX_l (τ := τ) (by with_reducible first | assumption | exact okR_x (by with_reducible first | assumption | exact okR_4 (by with_reducible assumption) | exact okR_5 (by with_reducible assumption) | exact okR_6 (by with_reducible assumption) | exact okR_3 (by with_reducible assumption)))).2
            refine tx_callE (rest := []) hx hb hml hown hts hK hP hE hS (c_X1_stands l D cI o a (g_X1_readWord_5 τ 101 τ) adK adV 4 (by decide) (τ 2 0) (xa τ) ((okR_a (τ := τ) (by with_reducible first | assumption | exact okR_4 (by with_reducible assumption) | exact okR_5 (by with_reducible assumption) | exact okR_6 (by with_reducible assumption) | exact okR_3 (by with_reducible assumption))).1) (by with_reducible first | assumption | exact okR_4 (by with_reducible assumption) | exact okR_5 (by with_reducible assumption) | exact okR_6 (by with_reducible assumption) | exact okR_3 (by with_reducible assumption)) (by with_reducible assumption)) (kV_X1_stands hts ml_X1_63 ⟨(Nat.le_of_ble_eq_true rfl), (Nat.le_of_ble_eq_true rfl)⟩) rfl hl.1 rfl (Nat.le_of_ble_eq_true rfl) dX1_readWord_109 (Nat.zero_le _) (Nat.zero_le _) ?_
            refine lv_if_eq (tgt := 119) hx hb dX1_readWord_112 (by decide) (fun c_112 => ?_) (fun c_112 => ?_)
            · refine lv_iconst (v := (-1)) hx hb dX1_readWord_119 (by decide) ?_
              exact tx_finM hx hb hr hlk hK hP hS (br_p c_64 (br_p c_76 (br_p c_88 (br_p c_100 (br_p c_112 rfl))))) dX1_readWord_120
            refine lv_iconst (v := 4) hx hb dX1_readWord_115 (by decide) ?_
            refine lv_goto (tgt := 120) hx hb dX1_readWord_116 (by decide) ?_
            exact tx_finM hx hb hr hlk hK hP hS (br_p c_64 (br_p c_76 (br_p c_88 (br_p c_100 (br_n c_112 rfl))))) dX1_readWord_120
          refine lv_iconst (v := 3) hx hb dX1_readWord_103 (by decide) ?_
          exact tx_finM hx hb hr hlk hK hP hS (br_p c_64 (br_p c_76 (br_p c_88 (br_n c_100 rfl)))) dX1_readWord_104
        refine lv_iconst (v := 2) hx hb dX1_readWord_91 (by decide) ?_
        exact tx_finM hx hb hr hlk hK hP hS (br_p c_64 (br_p c_76 (br_n c_88 rfl))) dX1_readWord_92
      refine lv_iconst (v := 1) hx hb dX1_readWord_79 (by decide) ?_
      exact tx_finM hx hb hr hlk hK hP hS (br_p c_64 (br_n c_76 rfl)) dX1_readWord_80
    refine lv_iconst (v := 0) hx hb dX1_readWord_67 (by decide) ?_
    exact tx_finM hx hb hr hlk hK hP hS (br_n c_64 rfl) dX1_readWord_68
  have L_5 : ∀ (fu : Nat) (ω : Nat → Nat → Int32), xl ω - xa ω < fu → okR ω → g_X1_readWord_5 τ fu ω = g_X1_readWord_5 τ 101 τ → ∀ (H : Heap) (locs : List Loc), va_P D vwCl (txW cI o a ω) H → va_S (txA o a) s.heap H locs → ∀ ls, lv_has ls 2 [(1, .int (τ 2 0)), (0, .ref (o))] → W p l e rm_X1_readWord s m (([.ref (o)] : List Value).toArray) below meth c H locs 0 0 (MQ below (txQ D cI o a (m_X1_readWord τ)) ([.ref (o)] : List Value).toArray s 0 0 (txA o a)) (F0 m 5 ls []) := by
    intro fu
    induction fu with
    | zero => intro ω hm; exact absurd hm (Nat.not_lt_zero _)
    | succ fu ih =>
      intro ω hm hokr2 hg_5 H locs hP hS ls hl
      refine lv_aload_n hx hb dX1_readWord_5 rfl (lv_at hl 1 rfl) ?_
      refine tx_g2 hx hb hts hown hK hP (v := ω 2 0) rfl dX1_readWord_6 ?_
      refine lv_aload_n hx hb dX1_readWord_9 rfl (lv_at hl 1 rfl) ?_
      refine tx_g1 hx hb hts hown hK hP (v := ω 1 0) rfl dX1_readWord_10 ?_
      have := (okR_a (τ := ω) (by with_reducible first | assumption | exact okR_4 (by with_reducible assumption) | exact okR_5 (by with_reducible assumption) | exact okR_6 (by with_reducible assumption) | exact okR_3 (by with_reducible assumption))).2
      have := (okX_l (τ := ω) (by with_reducible first | assumption | exact okR_x (by with_reducible first | assumption | exact okR_4 (by with_reducible assumption) | exact okR_5 (by with_reducible assumption) | exact okR_6 (by with_reducible assumption) | exact okR_3 (by with_reducible assumption)))).2
      have := (okX_l (τ := ω) (by with_reducible first | assumption | exact okR_x (by with_reducible assumption))).2
      refine lv_icmp_geN (xa ω) (xl ω) hx hb (okR_a (τ := ω) (by with_reducible first | assumption | exact okR_4 (by with_reducible assumption) | exact okR_5 (by with_reducible assumption) | exact okR_6 (by with_reducible assumption) | exact okR_3 (by with_reducible assumption))).1 (okX_l (τ := ω) (by with_reducible first | assumption | exact okR_x (by with_reducible assumption))).1 (by omega) (by omega) (tgt := 57) dX1_readWord_13 (by decide) (fun c_13 => ?_) (fun c_13 => ?_)
      · have ex : ω = g_X1_readWord_5 τ 101 τ := ((br_p c_13 rfl) : ω = g_X1_readWord_5 τ (fu + 1) ω).trans hg_5
        exact K_57 _ _ (by rw [← ex]; exact hP) hS ls (lv_sub hl [0, 1] rfl)
      refine lv_aload_n hx hb dX1_readWord_16 rfl (lv_at hl 1 rfl) ?_
      refine tx_g0 hx hb hts hown hK hP dX1_readWord_17 ?_
      refine lv_aload_n hx hb dX1_readWord_20 rfl (lv_at hl 1 rfl) ?_
      refine tx_g2 hx hb hts hown hK hP (v := ω 2 0) rfl dX1_readWord_21 ?_
      have := (okR_a (τ := ω) (by with_reducible first | assumption | exact okR_4 (by with_reducible assumption) | exact okR_5 (by with_reducible assumption) | exact okR_6 (by with_reducible assumption) | exact okR_3 (by with_reducible assumption))).2
      have := (okX_l (τ := ω) (by with_reducible first | assumption | exact okR_x (by with_reducible first | assumption | exact okR_4 (by with_reducible assumption) | exact okR_5 (by with_reducible assumption) | exact okR_6 (by with_reducible assumption) | exact okR_3 (by with_reducible assumption)))).2
      refine tx_r0 hx hb hK hP (xa ω) (okR_a (τ := ω) (by with_reducible first | assumption | exact okR_4 (by with_reducible assumption) | exact okR_5 (by with_reducible assumption) | exact okR_6 (by with_reducible assumption) | exact okR_3 (by with_reducible assumption))).1 (by omega) (v := ω 0 (xa ω)) rfl dX1_readWord_24 ?_
      refine lv_bipush (v := 97) hx hb dX1_readWord_25 (by decide) ?_
      refine lv_icmp_lt (tgt := 57) hx hb dX1_readWord_27 (by decide) (fun c_27 => ?_) (fun c_27 => ?_)
      · have ex : ω = g_X1_readWord_5 τ 101 τ := ((br_n c_13 (br_p c_27 rfl)) : ω = g_X1_readWord_5 τ (fu + 1) ω).trans hg_5
        exact K_57 _ _ (by rw [← ex]; exact hP) hS ls (lv_sub hl [0, 1] rfl)
      refine lv_aload_n hx hb dX1_readWord_30 rfl (lv_at hl 1 rfl) ?_
      refine tx_g0 hx hb hts hown hK hP dX1_readWord_31 ?_
      refine lv_aload_n hx hb dX1_readWord_34 rfl (lv_at hl 1 rfl) ?_
      refine tx_g2 hx hb hts hown hK hP (v := ω 2 0) rfl dX1_readWord_35 ?_
      have := (okR_a (τ := ω) (by with_reducible first | assumption | exact okR_4 (by with_reducible assumption) | exact okR_5 (by with_reducible assumption) | exact okR_6 (by with_reducible assumption) | exact okR_3 (by with_reducible assumption))).2
      have := (okX_l (τ := ω) (by with_reducible first | assumption | exact okR_x (by with_reducible first | assumption | exact okR_4 (by with_reducible assumption) | exact okR_5 (by with_reducible assumption) | exact okR_6 (by with_reducible assumption) | exact okR_3 (by with_reducible assumption)))).2
      refine tx_r0 hx hb hK hP (xa ω) (okR_a (τ := ω) (by with_reducible first | assumption | exact okR_4 (by with_reducible assumption) | exact okR_5 (by with_reducible assumption) | exact okR_6 (by with_reducible assumption) | exact okR_3 (by with_reducible assumption))).1 (by omega) (v := ω 0 (xa ω)) rfl dX1_readWord_38 ?_
      refine lv_bipush (v := 122) hx hb dX1_readWord_39 (by decide) ?_
      refine lv_icmp_gt (tgt := 57) hx hb dX1_readWord_41 (by decide) (fun c_41 => ?_) (fun c_41 => ?_)
      · have ex : ω = g_X1_readWord_5 τ 101 τ := ((br_n c_13 (br_n c_27 (br_p c_41 rfl))) : ω = g_X1_readWord_5 τ (fu + 1) ω).trans hg_5
        exact K_57 _ _ (by rw [← ex]; exact hP) hS ls (lv_sub hl [0, 1] rfl)
      refine lv_aload_n hx hb dX1_readWord_44 rfl (lv_at hl 1 rfl) ?_
      refine lv_dup hx hb dX1_readWord_45 rfl ?_
      refine tx_g2 hx hb hts hown hK hP (v := ω 2 0) rfl dX1_readWord_46 ?_
      refine lv_iconst (v := 1) hx hb dX1_readWord_49 (by decide) ?_
      refine lv_iadd hx hb dX1_readWord_50 ?_
      refine tx_p2 hx hb hts hown hK hP hD hS dX1_readWord_51 (fun H locs hP hS => ?_)
      refine lv_goto (tgt := 5) hx hb dX1_readWord_54 (by decide) ?_
      have hti := (incX_ok hokr2 (by omega)).2
      exact ih (shS ω 2 ((ω 2 0) + 1)) (by omega) ((incX_ok hokr2 (by omega)).1) (((br_n c_13 (br_n c_27 (br_n c_41 rfl))) : g_X1_readWord_5 τ fu (shS ω 2 ((ω 2 0) + 1)) = g_X1_readWord_5 τ (fu + 1) ω).trans hg_5) _ _ hP hS ls (lv_sub hl [0, 1] rfl)
  exact L_5 101 τ (by have := (okX_l (okR_x hokr)).2; omega) hokr rfl _ _ hP hS ls (lv_sub hl [0, 1] rfl)
theorem kV_X1_readWord {R : Room} {s : State} {args : Array Value} {own : String} {idx : Nat} {c0 : Cond} (hts : ∀ w ∈ c0 :: W0, w.before args s = true) (hl : Cond.methodLink own idx yX1_readWord ∈ W0) (hR : rm_X1_readWord.frames + 1 ≤ R.frames ∧ 8 + (2 + 11) + rm_X1_readWord.locals ≤ R.locals) : CallW R s args own RX1 idx yX1_readWord cX1_readWord 2 (some .int) (Cond.code yX1_readWord cX1_readWord 2 (some .int) :: W0) rm_X1_readWord 0 0 0 := cwV 0 hts (gdV hl mi_yX1_readWord ms_yX1_readWord mini_X1 mc_yX1_readWord) rfl rfl rfl (by decide +kernel) hR

theorem readWord_ok {τ : Nat → Nat → Int32} (h : okR τ) : okR (m_X1_readWord τ).2 ∧ (m_X1_readWord τ).2 1 = τ 1 := by
  have r := readWord_g (τ := τ) 101 τ h
  have key : ∀ v : Int32, okR (v, g_X1_readWord_5 τ 101 τ).2 ∧ (v, g_X1_readWord_5 τ 101 τ).2 1 = τ 1 := fun v => ⟨r.1, r.2.1⟩
  unfold m_X1_readWord
  (repeat' split) <;> exact key _

/-! X1.readOrder -/
def j_X1_readOrder_101 (τ : Nat → Nat → Int32) (ω : Nat → Nat → Int32) : Int32 × (Nat → Nat → Int32) := ((m_X1_readEndOfOrder (s_X1_skipBlanks ω)).1, (m_X1_readEndOfOrder (s_X1_skipBlanks ω)).2)
def m_X1_readOrder (τ : Nat → Nat → Int32) : Int32 × (Nat → Nat → Int32) := (if ((m_X1_readWord (s_X1_skipBlanks τ)).1) = (-1) then ((s_X1_skipBlanks τ) 2 0, (shS ((m_X1_readWord (s_X1_skipBlanks τ)).2) 4 ((m_X1_readWord (s_X1_skipBlanks τ)).1))) else (if ((m_X1_readNumber (s_X1_skipBlanks (shS ((m_X1_readWord (s_X1_skipBlanks τ)).2) 4 ((m_X1_readWord (s_X1_skipBlanks τ)).1)))).1) = (-1) then (((m_X1_readNumber (s_X1_skipBlanks (shS ((m_X1_readWord (s_X1_skipBlanks τ)).2) 4 ((m_X1_readWord (s_X1_skipBlanks τ)).1)))).2) 2 0, (shS ((m_X1_readNumber (s_X1_skipBlanks (shS ((m_X1_readWord (s_X1_skipBlanks τ)).2) 4 ((m_X1_readWord (s_X1_skipBlanks τ)).1)))).2) 5 ((m_X1_readNumber (s_X1_skipBlanks (shS ((m_X1_readWord (s_X1_skipBlanks τ)).2) 4 ((m_X1_readWord (s_X1_skipBlanks τ)).1)))).1))) else (if (f_X1_takesTwo (((m_X1_readNumber (s_X1_skipBlanks (shS ((m_X1_readWord (s_X1_skipBlanks τ)).2) 4 ((m_X1_readWord (s_X1_skipBlanks τ)).1)))).2) 4 0)) = 0 then j_X1_readOrder_101 τ (shS ((m_X1_readNumber (s_X1_skipBlanks (shS ((m_X1_readWord (s_X1_skipBlanks τ)).2) 4 ((m_X1_readWord (s_X1_skipBlanks τ)).1)))).2) 5 ((m_X1_readNumber (s_X1_skipBlanks (shS ((m_X1_readWord (s_X1_skipBlanks τ)).2) 4 ((m_X1_readWord (s_X1_skipBlanks τ)).1)))).1)) else (if (f_X1_here (shS ((m_X1_readNumber (s_X1_skipBlanks (shS ((m_X1_readWord (s_X1_skipBlanks τ)).2) 4 ((m_X1_readWord (s_X1_skipBlanks τ)).1)))).2) 5 ((m_X1_readNumber (s_X1_skipBlanks (shS ((m_X1_readWord (s_X1_skipBlanks τ)).2) 4 ((m_X1_readWord (s_X1_skipBlanks τ)).1)))).1))) = 32 then (if ((m_X1_readNumber (s_X1_skipBlanks (shS ((m_X1_readNumber (s_X1_skipBlanks (shS ((m_X1_readWord (s_X1_skipBlanks τ)).2) 4 ((m_X1_readWord (s_X1_skipBlanks τ)).1)))).2) 5 ((m_X1_readNumber (s_X1_skipBlanks (shS ((m_X1_readWord (s_X1_skipBlanks τ)).2) 4 ((m_X1_readWord (s_X1_skipBlanks τ)).1)))).1)))).1) = (-1) then (((m_X1_readNumber (s_X1_skipBlanks (shS ((m_X1_readNumber (s_X1_skipBlanks (shS ((m_X1_readWord (s_X1_skipBlanks τ)).2) 4 ((m_X1_readWord (s_X1_skipBlanks τ)).1)))).2) 5 ((m_X1_readNumber (s_X1_skipBlanks (shS ((m_X1_readWord (s_X1_skipBlanks τ)).2) 4 ((m_X1_readWord (s_X1_skipBlanks τ)).1)))).1)))).2) 2 0, (shS ((m_X1_readNumber (s_X1_skipBlanks (shS ((m_X1_readNumber (s_X1_skipBlanks (shS ((m_X1_readWord (s_X1_skipBlanks τ)).2) 4 ((m_X1_readWord (s_X1_skipBlanks τ)).1)))).2) 5 ((m_X1_readNumber (s_X1_skipBlanks (shS ((m_X1_readWord (s_X1_skipBlanks τ)).2) 4 ((m_X1_readWord (s_X1_skipBlanks τ)).1)))).1)))).2) 6 ((m_X1_readNumber (s_X1_skipBlanks (shS ((m_X1_readNumber (s_X1_skipBlanks (shS ((m_X1_readWord (s_X1_skipBlanks τ)).2) 4 ((m_X1_readWord (s_X1_skipBlanks τ)).1)))).2) 5 ((m_X1_readNumber (s_X1_skipBlanks (shS ((m_X1_readWord (s_X1_skipBlanks τ)).2) 4 ((m_X1_readWord (s_X1_skipBlanks τ)).1)))).1)))).1))) else j_X1_readOrder_101 τ (shS ((m_X1_readNumber (s_X1_skipBlanks (shS ((m_X1_readNumber (s_X1_skipBlanks (shS ((m_X1_readWord (s_X1_skipBlanks τ)).2) 4 ((m_X1_readWord (s_X1_skipBlanks τ)).1)))).2) 5 ((m_X1_readNumber (s_X1_skipBlanks (shS ((m_X1_readWord (s_X1_skipBlanks τ)).2) 4 ((m_X1_readWord (s_X1_skipBlanks τ)).1)))).1)))).2) 6 ((m_X1_readNumber (s_X1_skipBlanks (shS ((m_X1_readNumber (s_X1_skipBlanks (shS ((m_X1_readWord (s_X1_skipBlanks τ)).2) 4 ((m_X1_readWord (s_X1_skipBlanks τ)).1)))).2) 5 ((m_X1_readNumber (s_X1_skipBlanks (shS ((m_X1_readWord (s_X1_skipBlanks τ)).2) 4 ((m_X1_readWord (s_X1_skipBlanks τ)).1)))).1)))).1))) else (((m_X1_readNumber (s_X1_skipBlanks (shS ((m_X1_readWord (s_X1_skipBlanks τ)).2) 4 ((m_X1_readWord (s_X1_skipBlanks τ)).1)))).2) 2 0, (shS ((m_X1_readNumber (s_X1_skipBlanks (shS ((m_X1_readWord (s_X1_skipBlanks τ)).2) 4 ((m_X1_readWord (s_X1_skipBlanks τ)).1)))).2) 5 ((m_X1_readNumber (s_X1_skipBlanks (shS ((m_X1_readWord (s_X1_skipBlanks τ)).2) 4 ((m_X1_readWord (s_X1_skipBlanks τ)).1)))).1)))))))
abbrev rm_X1_readOrder : Room := { frames := 6, cells := 0, slots := 0, locals := 129 }
set_option maxRecDepth 100000 in
theorem c_X1_readOrder (l : Launch) (D : va_G) (cI : ClassId) (o : Nat) (a : Nat → Nat) (τ : Nat → Nat → Int32) (adK adV : Nat → Nat) (hokr : okR τ) :
    Met l yX1_readOrder (Cond.code yX1_readOrder cX1_readOrder 2 (some .int) :: W0) rm_X1_readOrder (va_Pc [.ref o] (fun U => txM D cI o a τ U ∧ sE adK adV (txA o a) U U.heap)) (txQ D cI o a (m_X1_readOrder τ)) 0 0 (txA o a) := by
  refine st_gen (cc := cX1_readOrder) (maxL := 2) (ret := some .int) (own := RX1) (by decide) rfl (Nat.le_of_ble_eq_true rfl) ?_
  intro p e s m below meth c ls C hPre hl
  obtain ⟨hx, hb, hr, hml, hown, hts, hlk⟩ := C
  obtain ⟨hPre, hE⟩ := hPre
  obtain ⟨⟨hP, hK⟩, hD⟩ := hPre
  have hS : va_S (txA o a) s.heap s.heap [] := va_S.rf
  have hl : lv_has ls 2 [(0, .ref (o))] := hl
  have hxab := (okR_a hokr).2
  have hxlb := (okX_l (okR_x hokr)).2
  have J_101 : ∀ (ω : Nat → Nat → Int32), okR ω → j_X1_readOrder_101 τ ω = m_X1_readOrder τ → ∀ (H : Heap) (locs : List Loc), va_P D vwCl (txW cI o a ω) H → va_S (txA o a) s.heap H locs → ∀ ls, lv_has ls 2 [(0, .ref (o))] → W p l e rm_X1_readOrder s m (([.ref (o)] : List Value).toArray) below meth c H locs 0 0 (MQ below (txQ D cI o a (m_X1_readOrder τ)) ([.ref (o)] : List Value).toArray s 0 0 (txA o a)) (F0 m 101 ls []) := by
    intro ω hokw hj_101 H locs hP hS ls hl
    refine lv_aload_n hx hb dX1_readOrder_101 rfl (lv_at hl 0 rfl) ?_
    refine tx_callV (rest := []) hx hb hml hown hts hK hP hD hS (c_X1_skipBlanks l D cI o a ω (by with_reducible first | assumption | exact okR_4 (by with_reducible assumption) | exact okR_5 (by with_reducible assumption) | exact okR_6 (by with_reducible assumption) | exact okR_3 (by with_reducible assumption))) (kV_X1_skipBlanks hts ml_X1_42 ⟨(Nat.le_of_ble_eq_true rfl), (Nat.le_of_ble_eq_true rfl)⟩) rfl hl.1 rfl (Nat.le_of_ble_eq_true rfl) dX1_readOrder_102 (Nat.zero_le _) (Nat.zero_le _) (fun H locs hP hS => ?_)
    obtain ⟨_, _⟩ := skipBlanks_ok (τ := ω) (by with_reducible first | assumption | exact okR_4 (by with_reducible assumption) | exact okR_5 (by with_reducible assumption) | exact okR_6 (by with_reducible assumption) | exact okR_3 (by with_reducible assumption))
    refine lv_aload_n hx hb dX1_readOrder_105 rfl (lv_at hl 0 rfl) ?_
    refine tx_callM (rest := []) hx hb hml hown hts hK hP hD hS (c_X1_readEndOfOrder l D cI o a (s_X1_skipBlanks ω) (by with_reducible first | assumption | exact okR_4 (by with_reducible assumption) | exact okR_5 (by with_reducible assumption) | exact okR_6 (by with_reducible assumption) | exact okR_3 (by with_reducible assumption))) (kV_X1_readEndOfOrder hts ml_X1_58 ⟨(Nat.le_of_ble_eq_true rfl), (Nat.le_of_ble_eq_true rfl)⟩) rfl hl.1 rfl (Nat.le_of_ble_eq_true rfl) dX1_readOrder_106 (Nat.zero_le _) (Nat.zero_le _) (fun H locs hP hS => ?_)
    obtain ⟨_, _⟩ := readEndOfOrder_ok (τ := (s_X1_skipBlanks ω)) (by with_reducible first | assumption | exact okR_4 (by with_reducible assumption) | exact okR_5 (by with_reducible assumption) | exact okR_6 (by with_reducible assumption) | exact okR_3 (by with_reducible assumption))
    exact tx_finM hx hb hr hlk hK hP hS ((rfl : _ = j_X1_readOrder_101 τ ω).trans hj_101) dX1_readOrder_109
  refine lv_aload_n hx hb dX1_readOrder_0 rfl (lv_at hl 0 rfl) ?_
  refine tx_callV (rest := []) hx hb hml hown hts hK hP hD hS (c_X1_skipBlanks l D cI o a τ (by with_reducible first | assumption | exact okR_4 (by with_reducible assumption) | exact okR_5 (by with_reducible assumption) | exact okR_6 (by with_reducible assumption) | exact okR_3 (by with_reducible assumption))) (kV_X1_skipBlanks hts ml_X1_42 ⟨(Nat.le_of_ble_eq_true rfl), (Nat.le_of_ble_eq_true rfl)⟩) rfl hl.1 rfl (Nat.le_of_ble_eq_true rfl) dX1_readOrder_1 (Nat.zero_le _) (Nat.zero_le _) (fun H locs hP hS => ?_)
  obtain ⟨_, _⟩ := skipBlanks_ok (τ := τ) (by with_reducible first | assumption | exact okR_4 (by with_reducible assumption) | exact okR_5 (by with_reducible assumption) | exact okR_6 (by with_reducible assumption) | exact okR_3 (by with_reducible assumption))
  refine lv_aload_n hx hb dX1_readOrder_4 rfl (lv_at hl 0 rfl) ?_
  refine tx_g2 hx hb hts hown hK hP (v := (s_X1_skipBlanks τ) 2 0) rfl dX1_readOrder_5 ?_
  refine lv_istore_n (lv' := [(1, .int ((s_X1_skipBlanks τ) 2 0)), (0, .ref (o))]) hx hb dX1_readOrder_8 rfl hl (by decide) rfl (fun ls hl => ?_)
  refine lv_aload_n hx hb dX1_readOrder_9 rfl (lv_at hl 1 rfl) ?_
  refine lv_aload_n hx hb dX1_readOrder_10 rfl (lv_at hl 1 rfl) ?_
  refine tx_callME (rest := [.ref (o)]) hx hb hml hown hts hK hP hD hS hE (c_X1_readWord l D cI o a (s_X1_skipBlanks τ) adK adV (by with_reducible first | assumption | exact okR_4 (by with_reducible assumption) | exact okR_5 (by with_reducible assumption) | exact okR_6 (by with_reducible assumption) | exact okR_3 (by with_reducible assumption))) (kV_X1_readWord hts ml_X1_45 ⟨(Nat.le_of_ble_eq_true rfl), (Nat.le_of_ble_eq_true rfl)⟩) rfl hl.1 rfl (Nat.le_of_ble_eq_true rfl) dX1_readOrder_11 (Nat.zero_le _) (Nat.zero_le _) (fun H locs hP hS => ?_)
  obtain ⟨_, _⟩ := readWord_ok (τ := (s_X1_skipBlanks τ)) (by with_reducible first | assumption | exact okR_4 (by with_reducible assumption) | exact okR_5 (by with_reducible assumption) | exact okR_6 (by with_reducible assumption) | exact okR_3 (by with_reducible assumption))
  refine tx_p4 hx hb hts hown hK hP hD hS dX1_readOrder_14 (fun H locs hP hS => ?_)
  refine lv_aload_n hx hb dX1_readOrder_17 rfl (lv_at hl 1 rfl) ?_
  refine tx_g4 hx hb hts hown hK hP (v := (m_X1_readWord (s_X1_skipBlanks τ)).1) shS_eq dX1_readOrder_18 ?_
  refine lv_iconst (v := (-1)) hx hb dX1_readOrder_21 (by decide) ?_
  refine lv_icmp_ne (tgt := 27) hx hb dX1_readOrder_22 (by decide) (fun c_22 => ?_) (fun c_22 => ?_)
  · refine lv_aload_n hx hb dX1_readOrder_27 rfl (lv_at hl 1 rfl) ?_
    refine tx_callV (rest := []) hx hb hml hown hts hK hP hD hS (c_X1_skipBlanks l D cI o a (shS ((m_X1_readWord (s_X1_skipBlanks τ)).2) 4 ((m_X1_readWord (s_X1_skipBlanks τ)).1)) (by with_reducible first | assumption | exact okR_4 (by with_reducible assumption) | exact okR_5 (by with_reducible assumption) | exact okR_6 (by with_reducible assumption) | exact okR_3 (by with_reducible assumption))) (kV_X1_skipBlanks hts ml_X1_42 ⟨(Nat.le_of_ble_eq_true rfl), (Nat.le_of_ble_eq_true rfl)⟩) rfl hl.1 rfl (Nat.le_of_ble_eq_true rfl) dX1_readOrder_28 (Nat.zero_le _) (Nat.zero_le _) (fun H locs hP hS => ?_)
    obtain ⟨_, _⟩ := skipBlanks_ok (τ := (shS ((m_X1_readWord (s_X1_skipBlanks τ)).2) 4 ((m_X1_readWord (s_X1_skipBlanks τ)).1))) (by with_reducible first | assumption | exact okR_4 (by with_reducible assumption) | exact okR_5 (by with_reducible assumption) | exact okR_6 (by with_reducible assumption) | exact okR_3 (by with_reducible assumption))
    refine lv_aload_n hx hb dX1_readOrder_31 rfl (lv_at hl 1 rfl) ?_
    refine lv_aload_n hx hb dX1_readOrder_32 rfl (lv_at hl 1 rfl) ?_
    refine tx_callM (rest := [.ref (o)]) hx hb hml hown hts hK hP hD hS (c_X1_readNumber l D cI o a (s_X1_skipBlanks (shS ((m_X1_readWord (s_X1_skipBlanks τ)).2) 4 ((m_X1_readWord (s_X1_skipBlanks τ)).1))) (by with_reducible first | assumption | exact okR_4 (by with_reducible assumption) | exact okR_5 (by with_reducible assumption) | exact okR_6 (by with_reducible assumption) | exact okR_3 (by with_reducible assumption))) (kV_X1_readNumber hts ml_X1_48 ⟨(Nat.le_of_ble_eq_true rfl), (Nat.le_of_ble_eq_true rfl)⟩) rfl hl.1 rfl (Nat.le_of_ble_eq_true rfl) dX1_readOrder_33 (Nat.zero_le _) (Nat.zero_le _) (fun H locs hP hS => ?_)
    obtain ⟨_, _⟩ := readNumber_ok (τ := (s_X1_skipBlanks (shS ((m_X1_readWord (s_X1_skipBlanks τ)).2) 4 ((m_X1_readWord (s_X1_skipBlanks τ)).1)))) (by with_reducible first | assumption | exact okR_4 (by with_reducible assumption) | exact okR_5 (by with_reducible assumption) | exact okR_6 (by with_reducible assumption) | exact okR_3 (by with_reducible assumption))
    refine tx_p5 hx hb hts hown hK hP hD hS dX1_readOrder_36 (fun H locs hP hS => ?_)
    refine lv_aload_n hx hb dX1_readOrder_39 rfl (lv_at hl 1 rfl) ?_
    refine tx_g5 hx hb hts hown hK hP (v := (m_X1_readNumber (s_X1_skipBlanks (shS ((m_X1_readWord (s_X1_skipBlanks τ)).2) 4 ((m_X1_readWord (s_X1_skipBlanks τ)).1)))).1) shS_eq dX1_readOrder_40 ?_
    refine lv_iconst (v := (-1)) hx hb dX1_readOrder_43 (by decide) ?_
    refine lv_icmp_ne (tgt := 52) hx hb dX1_readOrder_44 (by decide) (fun c_44 => ?_) (fun c_44 => ?_)
    · refine lv_aload_n hx hb dX1_readOrder_52 rfl (lv_at hl 1 rfl) ?_
      refine tx_g4 hx hb hts hown hK hP (v := ((m_X1_readNumber (s_X1_skipBlanks (shS ((m_X1_readWord (s_X1_skipBlanks τ)).2) 4 ((m_X1_readWord (s_X1_skipBlanks τ)).1)))).2) 4 0) (congrFun (shS_f (σ := ((m_X1_readNumber (s_X1_skipBlanks (shS ((m_X1_readWord (s_X1_skipBlanks τ)).2) 4 ((m_X1_readWord (s_X1_skipBlanks τ)).1)))).2)) (f := 5) (f' := 4) (by decide)) 0) dX1_readOrder_53 ?_
      refine cl_S (rest := []) hx hb hml hown hts (c_X1_takesTwo l (((m_X1_readNumber (s_X1_skipBlanks (shS ((m_X1_readWord (s_X1_skipBlanks τ)).2) 4 ((m_X1_readWord (s_X1_skipBlanks τ)).1)))).2) 4 0)) (kS_X1_takesTwo hts ml_X1_51 ⟨(Nat.le_of_ble_eq_true rfl), (Nat.le_of_ble_eq_true rfl)⟩) rfl hl.1 rfl (Nat.le_of_ble_eq_true rfl) dX1_readOrder_56 (Nat.zero_le _) (Nat.zero_le _) ?_
      refine lv_if_eq (tgt := 101) hx hb dX1_readOrder_59 (by decide) (fun c_59 => ?_) (fun c_59 => ?_)
      · exact J_101 (shS ((m_X1_readNumber (s_X1_skipBlanks (shS ((m_X1_readWord (s_X1_skipBlanks τ)).2) 4 ((m_X1_readWord (s_X1_skipBlanks τ)).1)))).2) 5 ((m_X1_readNumber (s_X1_skipBlanks (shS ((m_X1_readWord (s_X1_skipBlanks τ)).2) 4 ((m_X1_readWord (s_X1_skipBlanks τ)).1)))).1)) (by with_reducible first | assumption | exact okR_4 (by with_reducible assumption) | exact okR_5 (by with_reducible assumption) | exact okR_6 (by with_reducible assumption) | exact okR_3 (by with_reducible assumption)) ((br_n c_22 (br_n c_44 (br_p c_59 rfl))) : j_X1_readOrder_101 τ (shS ((m_X1_readNumber (s_X1_skipBlanks (shS ((m_X1_readWord (s_X1_skipBlanks τ)).2) 4 ((m_X1_readWord (s_X1_skipBlanks τ)).1)))).2) 5 ((m_X1_readNumber (s_X1_skipBlanks (shS ((m_X1_readWord (s_X1_skipBlanks τ)).2) 4 ((m_X1_readWord (s_X1_skipBlanks τ)).1)))).1)) = m_X1_readOrder τ) _ _ hP hS ls (lv_sub hl [1] rfl)
      refine lv_aload_n hx hb dX1_readOrder_62 rfl (lv_at hl 1 rfl) ?_
      refine tx_call (rest := []) hx hb hml hown hts hK hP (c_X1_here l D cI o a (shS ((m_X1_readNumber (s_X1_skipBlanks (shS ((m_X1_readWord (s_X1_skipBlanks τ)).2) 4 ((m_X1_readWord (s_X1_skipBlanks τ)).1)))).2) 5 ((m_X1_readNumber (s_X1_skipBlanks (shS ((m_X1_readWord (s_X1_skipBlanks τ)).2) 4 ((m_X1_readWord (s_X1_skipBlanks τ)).1)))).1)) (by with_reducible first | assumption | exact okR_4 (by with_reducible assumption) | exact okR_5 (by with_reducible assumption) | exact okR_6 (by with_reducible assumption) | exact okR_3 (by with_reducible assumption))) (kV_X1_here hts ml_X1_55 ⟨(Nat.le_of_ble_eq_true rfl), (Nat.le_of_ble_eq_true rfl)⟩) rfl hl.1 rfl (Nat.le_of_ble_eq_true rfl) dX1_readOrder_63 (Nat.zero_le _) (Nat.zero_le _) ?_
      refine lv_bipush (v := 32) hx hb dX1_readOrder_66 (by decide) ?_
      refine lv_icmp_eq (tgt := 76) hx hb dX1_readOrder_68 (by decide) (fun c_68 => ?_) (fun c_68 => ?_)
      · refine lv_aload_n hx hb dX1_readOrder_76 rfl (lv_at hl 1 rfl) ?_
        refine tx_callV (rest := []) hx hb hml hown hts hK hP hD hS (c_X1_skipBlanks l D cI o a (shS ((m_X1_readNumber (s_X1_skipBlanks (shS ((m_X1_readWord (s_X1_skipBlanks τ)).2) 4 ((m_X1_readWord (s_X1_skipBlanks τ)).1)))).2) 5 ((m_X1_readNumber (s_X1_skipBlanks (shS ((m_X1_readWord (s_X1_skipBlanks τ)).2) 4 ((m_X1_readWord (s_X1_skipBlanks τ)).1)))).1)) (by with_reducible first | assumption | exact okR_4 (by with_reducible assumption) | exact okR_5 (by with_reducible assumption) | exact okR_6 (by with_reducible assumption) | exact okR_3 (by with_reducible assumption))) (kV_X1_skipBlanks hts ml_X1_42 ⟨(Nat.le_of_ble_eq_true rfl), (Nat.le_of_ble_eq_true rfl)⟩) rfl hl.1 rfl (Nat.le_of_ble_eq_true rfl) dX1_readOrder_77 (Nat.zero_le _) (Nat.zero_le _) (fun H locs hP hS => ?_)
        obtain ⟨_, _⟩ := skipBlanks_ok (τ := (shS ((m_X1_readNumber (s_X1_skipBlanks (shS ((m_X1_readWord (s_X1_skipBlanks τ)).2) 4 ((m_X1_readWord (s_X1_skipBlanks τ)).1)))).2) 5 ((m_X1_readNumber (s_X1_skipBlanks (shS ((m_X1_readWord (s_X1_skipBlanks τ)).2) 4 ((m_X1_readWord (s_X1_skipBlanks τ)).1)))).1))) (by with_reducible first | assumption | exact okR_4 (by with_reducible assumption) | exact okR_5 (by with_reducible assumption) | exact okR_6 (by with_reducible assumption) | exact okR_3 (by with_reducible assumption))
        refine lv_aload_n hx hb dX1_readOrder_80 rfl (lv_at hl 1 rfl) ?_
        refine lv_aload_n hx hb dX1_readOrder_81 rfl (lv_at hl 1 rfl) ?_
        refine tx_callM (rest := [.ref (o)]) hx hb hml hown hts hK hP hD hS (c_X1_readNumber l D cI o a (s_X1_skipBlanks (shS ((m_X1_readNumber (s_X1_skipBlanks (shS ((m_X1_readWord (s_X1_skipBlanks τ)).2) 4 ((m_X1_readWord (s_X1_skipBlanks τ)).1)))).2) 5 ((m_X1_readNumber (s_X1_skipBlanks (shS ((m_X1_readWord (s_X1_skipBlanks τ)).2) 4 ((m_X1_readWord (s_X1_skipBlanks τ)).1)))).1))) (by with_reducible first | assumption | exact okR_4 (by with_reducible assumption) | exact okR_5 (by with_reducible assumption) | exact okR_6 (by with_reducible assumption) | exact okR_3 (by with_reducible assumption))) (kV_X1_readNumber hts ml_X1_48 ⟨(Nat.le_of_ble_eq_true rfl), (Nat.le_of_ble_eq_true rfl)⟩) rfl hl.1 rfl (Nat.le_of_ble_eq_true rfl) dX1_readOrder_82 (Nat.zero_le _) (Nat.zero_le _) (fun H locs hP hS => ?_)
        obtain ⟨_, _⟩ := readNumber_ok (τ := (s_X1_skipBlanks (shS ((m_X1_readNumber (s_X1_skipBlanks (shS ((m_X1_readWord (s_X1_skipBlanks τ)).2) 4 ((m_X1_readWord (s_X1_skipBlanks τ)).1)))).2) 5 ((m_X1_readNumber (s_X1_skipBlanks (shS ((m_X1_readWord (s_X1_skipBlanks τ)).2) 4 ((m_X1_readWord (s_X1_skipBlanks τ)).1)))).1)))) (by with_reducible first | assumption | exact okR_4 (by with_reducible assumption) | exact okR_5 (by with_reducible assumption) | exact okR_6 (by with_reducible assumption) | exact okR_3 (by with_reducible assumption))
        refine tx_p6 hx hb hts hown hK hP hD hS dX1_readOrder_85 (fun H locs hP hS => ?_)
        refine lv_aload_n hx hb dX1_readOrder_88 rfl (lv_at hl 1 rfl) ?_
        refine tx_g6 hx hb hts hown hK hP (v := (m_X1_readNumber (s_X1_skipBlanks (shS ((m_X1_readNumber (s_X1_skipBlanks (shS ((m_X1_readWord (s_X1_skipBlanks τ)).2) 4 ((m_X1_readWord (s_X1_skipBlanks τ)).1)))).2) 5 ((m_X1_readNumber (s_X1_skipBlanks (shS ((m_X1_readWord (s_X1_skipBlanks τ)).2) 4 ((m_X1_readWord (s_X1_skipBlanks τ)).1)))).1)))).1) shS_eq dX1_readOrder_89 ?_
        refine lv_iconst (v := (-1)) hx hb dX1_readOrder_92 (by decide) ?_
        refine lv_icmp_ne (tgt := 101) hx hb dX1_readOrder_93 (by decide) (fun c_93 => ?_) (fun c_93 => ?_)
        · exact J_101 (shS ((m_X1_readNumber (s_X1_skipBlanks (shS ((m_X1_readNumber (s_X1_skipBlanks (shS ((m_X1_readWord (s_X1_skipBlanks τ)).2) 4 ((m_X1_readWord (s_X1_skipBlanks τ)).1)))).2) 5 ((m_X1_readNumber (s_X1_skipBlanks (shS ((m_X1_readWord (s_X1_skipBlanks τ)).2) 4 ((m_X1_readWord (s_X1_skipBlanks τ)).1)))).1)))).2) 6 ((m_X1_readNumber (s_X1_skipBlanks (shS ((m_X1_readNumber (s_X1_skipBlanks (shS ((m_X1_readWord (s_X1_skipBlanks τ)).2) 4 ((m_X1_readWord (s_X1_skipBlanks τ)).1)))).2) 5 ((m_X1_readNumber (s_X1_skipBlanks (shS ((m_X1_readWord (s_X1_skipBlanks τ)).2) 4 ((m_X1_readWord (s_X1_skipBlanks τ)).1)))).1)))).1)) (by with_reducible first | assumption | exact okR_4 (by with_reducible assumption) | exact okR_5 (by with_reducible assumption) | exact okR_6 (by with_reducible assumption) | exact okR_3 (by with_reducible assumption)) ((br_n c_22 (br_n c_44 (br_n c_59 (br_p c_68 (br_n c_93 rfl))))) : j_X1_readOrder_101 τ (shS ((m_X1_readNumber (s_X1_skipBlanks (shS ((m_X1_readNumber (s_X1_skipBlanks (shS ((m_X1_readWord (s_X1_skipBlanks τ)).2) 4 ((m_X1_readWord (s_X1_skipBlanks τ)).1)))).2) 5 ((m_X1_readNumber (s_X1_skipBlanks (shS ((m_X1_readWord (s_X1_skipBlanks τ)).2) 4 ((m_X1_readWord (s_X1_skipBlanks τ)).1)))).1)))).2) 6 ((m_X1_readNumber (s_X1_skipBlanks (shS ((m_X1_readNumber (s_X1_skipBlanks (shS ((m_X1_readWord (s_X1_skipBlanks τ)).2) 4 ((m_X1_readWord (s_X1_skipBlanks τ)).1)))).2) 5 ((m_X1_readNumber (s_X1_skipBlanks (shS ((m_X1_readWord (s_X1_skipBlanks τ)).2) 4 ((m_X1_readWord (s_X1_skipBlanks τ)).1)))).1)))).1)) = m_X1_readOrder τ) _ _ hP hS ls (lv_sub hl [1] rfl)
        refine lv_aload_n hx hb dX1_readOrder_96 rfl (lv_at hl 1 rfl) ?_
        refine tx_g2 hx hb hts hown hK hP (v := ((m_X1_readNumber (s_X1_skipBlanks (shS ((m_X1_readNumber (s_X1_skipBlanks (shS ((m_X1_readWord (s_X1_skipBlanks τ)).2) 4 ((m_X1_readWord (s_X1_skipBlanks τ)).1)))).2) 5 ((m_X1_readNumber (s_X1_skipBlanks (shS ((m_X1_readWord (s_X1_skipBlanks τ)).2) 4 ((m_X1_readWord (s_X1_skipBlanks τ)).1)))).1)))).2) 2 0) (congrFun (shS_f (σ := ((m_X1_readNumber (s_X1_skipBlanks (shS ((m_X1_readNumber (s_X1_skipBlanks (shS ((m_X1_readWord (s_X1_skipBlanks τ)).2) 4 ((m_X1_readWord (s_X1_skipBlanks τ)).1)))).2) 5 ((m_X1_readNumber (s_X1_skipBlanks (shS ((m_X1_readWord (s_X1_skipBlanks τ)).2) 4 ((m_X1_readWord (s_X1_skipBlanks τ)).1)))).1)))).2)) (f := 6) (f' := 2) (by decide)) 0) dX1_readOrder_97 ?_
        exact tx_finM hx hb hr hlk hK hP hS (br_n c_22 (br_n c_44 (br_n c_59 (br_p c_68 (br_p c_93 rfl))))) dX1_readOrder_100
      refine lv_aload_n hx hb dX1_readOrder_71 rfl (lv_at hl 1 rfl) ?_
      refine tx_g2 hx hb hts hown hK hP (v := ((m_X1_readNumber (s_X1_skipBlanks (shS ((m_X1_readWord (s_X1_skipBlanks τ)).2) 4 ((m_X1_readWord (s_X1_skipBlanks τ)).1)))).2) 2 0) (congrFun (shS_f (σ := ((m_X1_readNumber (s_X1_skipBlanks (shS ((m_X1_readWord (s_X1_skipBlanks τ)).2) 4 ((m_X1_readWord (s_X1_skipBlanks τ)).1)))).2)) (f := 5) (f' := 2) (by decide)) 0) dX1_readOrder_72 ?_
      exact tx_finM hx hb hr hlk hK hP hS (br_n c_22 (br_n c_44 (br_n c_59 (br_n c_68 rfl)))) dX1_readOrder_75
    refine lv_aload_n hx hb dX1_readOrder_47 rfl (lv_at hl 1 rfl) ?_
    refine tx_g2 hx hb hts hown hK hP (v := ((m_X1_readNumber (s_X1_skipBlanks (shS ((m_X1_readWord (s_X1_skipBlanks τ)).2) 4 ((m_X1_readWord (s_X1_skipBlanks τ)).1)))).2) 2 0) (congrFun (shS_f (σ := ((m_X1_readNumber (s_X1_skipBlanks (shS ((m_X1_readWord (s_X1_skipBlanks τ)).2) 4 ((m_X1_readWord (s_X1_skipBlanks τ)).1)))).2)) (f := 5) (f' := 2) (by decide)) 0) dX1_readOrder_48 ?_
    exact tx_finM hx hb hr hlk hK hP hS (br_n c_22 (br_p c_44 rfl)) dX1_readOrder_51
  refine lv_iload_n hx hb dX1_readOrder_25 rfl (lv_at hl 0 rfl) ?_
  exact tx_finM hx hb hr hlk hK hP hS (br_p c_22 rfl) dX1_readOrder_26
theorem kV_X1_readOrder {R : Room} {s : State} {args : Array Value} {own : String} {idx : Nat} {c0 : Cond} (hts : ∀ w ∈ c0 :: W0, w.before args s = true) (hl : Cond.methodLink own idx yX1_readOrder ∈ W0) (hR : rm_X1_readOrder.frames + 1 ≤ R.frames ∧ 8 + (2 + 11) + rm_X1_readOrder.locals ≤ R.locals) : CallW R s args own RX1 idx yX1_readOrder cX1_readOrder 2 (some .int) (Cond.code yX1_readOrder cX1_readOrder 2 (some .int) :: W0) rm_X1_readOrder 0 0 0 := cwV 0 hts (gdV hl mi_yX1_readOrder ms_yX1_readOrder mini_X1 mc_yX1_readOrder) rfl rfl rfl (by decide +kernel) hR

theorem readOrderJ_ok {τ ω : Nat → Nat → Int32} (h : okR ω) : okR (j_X1_readOrder_101 τ ω).2 := by
  unfold j_X1_readOrder_101
  exact (readEndOfOrder_ok (skipBlanks_ok h).1).1
theorem readOrder_okR {τ : Nat → Nat → Int32} (h : okR τ) : okR (m_X1_readOrder τ).2 := by
  have h1 := (skipBlanks_ok h).1
  have h2 := okR_4 (v := (m_X1_readWord (s_X1_skipBlanks τ)).1) (readWord_ok h1).1
  have h3 := (skipBlanks_ok h2).1
  have h4 := (readNumber_ok h3).1
  have h5 := okR_5 (v := (m_X1_readNumber (s_X1_skipBlanks (shS (m_X1_readWord (s_X1_skipBlanks τ)).2 4 (m_X1_readWord (s_X1_skipBlanks τ)).1))).1) h4
  have h6 := (skipBlanks_ok h5).1
  have h7 := (readNumber_ok h6).1
  unfold m_X1_readOrder
  refine ite_ind (fun z : MS => okR z.2) (fun _ => h2) (fun _ => ite_ind (fun z : MS => okR z.2) (fun _ => h5) (fun _ => ite_ind (fun z : MS => okR z.2) (fun _ => readOrderJ_ok h5) (fun _ => ite_ind (fun z : MS => okR z.2) (fun _ => ite_ind (fun z : MS => okR z.2) (fun _ => okR_6 h7) (fun _ => readOrderJ_ok (okR_6 h7))) (fun _ => h5))))

/-! X1.faultOf -/
def g_X1_faultOf_6 (τ : Nat → Nat → Int32) : Nat → (Nat) → (Nat → Nat → Int32) → Int32 × (Nat → Nat → Int32)
  | 0, i, ω => (0, ω)
  | fu + 1, i, ω => (if 100 < i then ((-1), ω) else (if (ω 3 0) = 0 then ((-1), ω) else (if ((m_X1_readOrder ω).1) = (-1) then g_X1_faultOf_6 τ fu (i + 1) ((m_X1_readOrder ω).2) else ((m_X1_readOrder ω).1, (m_X1_readOrder ω).2))))
def m_X1_faultOf (τ : Nat → Nat → Int32) : Int32 × (Nat → Nat → Int32) := g_X1_faultOf_6 τ 102 0 (s_X1_startReading τ)
abbrev rm_X1_faultOf : Room := { frames := 7, cells := 0, slots := 0, locals := 150 }
set_option maxRecDepth 100000 in
theorem c_X1_faultOf (l : Launch) (D : va_G) (cI : ClassId) (o : Nat) (a : Nat → Nat) (τ : Nat → Nat → Int32) (adK adV : Nat → Nat) (hokx : okX τ) :
    Met l yX1_faultOf (Cond.code yX1_faultOf cX1_faultOf 3 (some .int) :: W0) rm_X1_faultOf (va_Pc [.ref o] (fun U => txM D cI o a τ U ∧ sE adK adV (txA o a) U U.heap)) (txQ D cI o a (m_X1_faultOf τ)) 0 0 (txA o a) := by
  refine st_gen (cc := cX1_faultOf) (maxL := 3) (ret := some .int) (own := RX1) (by decide) rfl (Nat.le_of_ble_eq_true rfl) ?_
  intro p e s m below meth c ls C hPre hl
  obtain ⟨hx, hb, hr, hml, hown, hts, hlk⟩ := C
  obtain ⟨hPre, hE⟩ := hPre
  obtain ⟨⟨hP, hK⟩, hD⟩ := hPre
  have hS : va_S (txA o a) s.heap s.heap [] := va_S.rf
  have hl : lv_has ls 3 [(0, .ref (o))] := hl
  refine lv_aload_n hx hb dX1_faultOf_0 rfl (lv_at hl 0 rfl) ?_
  refine tx_callV (rest := []) hx hb hml hown hts hK hP hD hS (c_X1_startReading l D cI o a τ) (kV_X1_startReading hts ml_X1_35 ⟨(Nat.le_of_ble_eq_true rfl), (Nat.le_of_ble_eq_true rfl)⟩) rfl hl.1 rfl (Nat.le_of_ble_eq_true rfl) dX1_faultOf_1 (Nat.zero_le _) (Nat.zero_le _) (fun H locs hP hS => ?_)
  have hokr0 := okR_0 hokx
  refine lv_iconst (v := 0) hx hb dX1_faultOf_4 (by decide) ?_
  refine lv_istore_n (lv' := [(1, .int (0)), (0, .ref (o))]) hx hb dX1_faultOf_5 rfl hl (by decide) rfl (fun ls hl => ?_)
  have ho_6 : g_X1_faultOf_6 τ 102 0 (s_X1_startReading τ) = m_X1_faultOf τ := rfl
  have L_6 : ∀ (fu : Nat) (i : Nat) (ω : Nat → Nat → Int32), 101 - i < fu → okR ω → i ≤ 101 → g_X1_faultOf_6 τ fu i ω = g_X1_faultOf_6 τ 102 0 (s_X1_startReading τ) → ∀ (H : Heap) (locs : List Loc), va_P D vwCl (txW cI o a ω) H → va_S (txA o a) s.heap H locs → ∀ ls, lv_has ls 3 [(0, .ref (o)), (1, .int (nI i))] → W p l e rm_X1_faultOf s m (([.ref (o)] : List Value).toArray) below meth c H locs 0 0 (MQ below (txQ D cI o a (m_X1_faultOf τ)) ([.ref (o)] : List Value).toArray s 0 0 (txA o a)) (F0 m 6 ls []) := by
    intro fu
    induction fu with
    | zero => intro i ω hm; exact absurd hm (Nat.not_lt_zero _)
    | succ fu ih =>
      intro i ω hm hokr2 hi1 hg_6 H locs hP hS ls hl
      refine lv_iload_n hx hb dX1_faultOf_6 rfl (lv_at hl 1 rfl) ?_
      refine lv_bipush (v := 100) hx hb dX1_faultOf_7 (by decide) ?_
      refine lv_icmp_gtN (i) (100) hx hb rfl rfl (by omega) (by omega) (tgt := 37) dX1_faultOf_9 (by decide) (fun c_9 => ?_) (fun c_9 => ?_)
      · refine lv_iconst (v := (-1)) hx hb dX1_faultOf_37 (by decide) ?_
        exact tx_finM hx hb hr hlk hK hP hS (((br_p c_9 rfl) : _ = g_X1_faultOf_6 τ (fu + 1) i ω).trans (hg_6.trans ho_6)) dX1_faultOf_38
      refine lv_aload_n hx hb dX1_faultOf_12 rfl (lv_at hl 0 rfl) ?_
      refine tx_g3 hx hb hts hown hK hP (v := ω 3 0) rfl dX1_faultOf_13 ?_
      refine lv_if_eq (tgt := 37) hx hb dX1_faultOf_16 (by decide) (fun c_16 => ?_) (fun c_16 => ?_)
      · refine lv_iconst (v := (-1)) hx hb dX1_faultOf_37 (by decide) ?_
        exact tx_finM hx hb hr hlk hK hP hS (((br_n c_9 (br_p c_16 rfl)) : _ = g_X1_faultOf_6 τ (fu + 1) i ω).trans (hg_6.trans ho_6)) dX1_faultOf_38
      refine lv_aload_n hx hb dX1_faultOf_19 rfl (lv_at hl 0 rfl) ?_
      refine tx_callME (rest := []) hx hb hml hown hts hK hP hD hS hE (c_X1_readOrder l D cI o a ω adK adV (by with_reducible first | assumption | exact okR_4 (by with_reducible assumption) | exact okR_5 (by with_reducible assumption) | exact okR_6 (by with_reducible assumption) | exact okR_3 (by with_reducible assumption))) (kV_X1_readOrder hts ml_X1_38 ⟨(Nat.le_of_ble_eq_true rfl), (Nat.le_of_ble_eq_true rfl)⟩) rfl hl.1 rfl (Nat.le_of_ble_eq_true rfl) dX1_faultOf_20 (Nat.zero_le _) (Nat.zero_le _) (fun H locs hP hS => ?_)
      have := readOrder_okR (τ := ω) (by with_reducible first | assumption | exact okR_4 (by with_reducible assumption) | exact okR_5 (by with_reducible assumption) | exact okR_6 (by with_reducible assumption) | exact okR_3 (by with_reducible assumption))
      refine lv_istore_n (lv' := [(2, .int ((m_X1_readOrder ω).1)), (0, .ref (o)), (1, .int (nI i))]) hx hb dX1_faultOf_23 rfl hl (by decide) rfl (fun ls hl => ?_)
      refine lv_iload_n hx hb dX1_faultOf_24 rfl (lv_at hl 0 rfl) ?_
      refine lv_iconst (v := (-1)) hx hb dX1_faultOf_25 (by decide) ?_
      refine lv_icmp_eq (tgt := 31) hx hb dX1_faultOf_26 (by decide) (fun c_26 => ?_) (fun c_26 => ?_)
      · refine lv_iinc (v := nI (i + 1)) (lv' := [(1, .int (nI (i + 1))), (2, .int ((m_X1_readOrder ω).1)), (0, .ref (o))]) hx hb dX1_faultOf_31 hl (k := 2) rfl (nI_c1 _) (by decide) rfl (fun ls hl => ?_)
        refine lv_goto (tgt := 6) hx hb dX1_faultOf_34 (by decide) ?_
        exact ih (i + 1) ((m_X1_readOrder ω).2) (by omega) (readOrder_okR hokr2) (by omega) (((br_n c_9 (br_n c_16 (br_p c_26 rfl))) : g_X1_faultOf_6 τ fu (i + 1) ((m_X1_readOrder ω).2) = g_X1_faultOf_6 τ (fu + 1) i ω).trans hg_6) _ _ hP hS ls (lv_sub hl [2, 0] rfl)
      refine lv_iload_n hx hb dX1_faultOf_29 rfl (lv_at hl 0 rfl) ?_
      exact tx_finM hx hb hr hlk hK hP hS (((br_n c_9 (br_n c_16 (br_n c_26 rfl))) : _ = g_X1_faultOf_6 τ (fu + 1) i ω).trans (hg_6.trans ho_6)) dX1_faultOf_30
  exact L_6 102 0 (s_X1_startReading τ) (by omega) hokr0 (by omega) rfl _ _ hP hS ls (lv_sub hl [1, 0] rfl)
theorem kV_X1_faultOf {R : Room} {s : State} {args : Array Value} {own : String} {idx : Nat} {c0 : Cond} (hts : ∀ w ∈ c0 :: W0, w.before args s = true) (hl : Cond.methodLink own idx yX1_faultOf ∈ W0) (hR : rm_X1_faultOf.frames + 1 ≤ R.frames ∧ 8 + (3 + 11) + rm_X1_faultOf.locals ≤ R.locals) : CallW R s args own RX1 idx yX1_faultOf cX1_faultOf 3 (some .int) (Cond.code yX1_faultOf cX1_faultOf 3 (some .int) :: W0) rm_X1_faultOf 0 0 0 := cwV 0 hts (gdV hl mi_yX1_faultOf ms_yX1_faultOf mini_X1 mc_yX1_faultOf) rfl rfl rfl (by decide +kernel) hR

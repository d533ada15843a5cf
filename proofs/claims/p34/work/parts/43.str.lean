/-! ===== the five words, and what is read of them ===== -/
def sLen : List Nat := [4, 4, 3, 4, 4]
def sByt : List (List Int32) := [[114, 101, 110, 116], [98, 97, 99, 107], [98, 117, 121], [115, 101, 108, 108], [119, 97, 105, 116]]
def sIx : List Nat := [61, 67, 69, 71, 73]
def sTx : List String := ["rent", "back", "buy", "sell", "wait"]
def sCh (i k : Nat) : Int32 := (sByt.getD i []).getD k 0
theorem sLen_le (i : Nat) : sLen.getD i 0 ≤ 4 := by
  match i with
  | 0 => decide
  | 1 => decide
  | 2 => decide
  | 3 => decide
  | 4 => decide
  | i + 5 => exact Nat.zero_le _
theorem sLen_shr : ∀ i, i < 5 → nI (sLen.getD i 0) >>> ((0 : Int32) &&& 31) = nI (sLen.getD i 0) := by decide +kernel
theorem sCh_ok : ∀ i, i < 5 → ∀ k, k < sLen.getD i 0 → ((sCh i k &&& 255).toUInt32 % 65536).toInt32 = sCh i k ∧ narrow .char (.int (sCh i k)) = .int (sCh i k) := by decide +kernel
def sE (adK adV : Nat → Nat) (A : Nat → Prop) (U : State) (H : Heap) : Prop :=
  vk_S 5 sLen sByt adK adV A U H ∧ va_Z "java/lang/String" "COMPACT_STRINGS" "Z" (.int 1) A U H ∧ va_Zq "jdk/internal/util/Preconditions" "SIOOBE_FORMATTER" "Ljava/util/function/BiFunction;" A U H ∧ ∀ i, i < 5 → vk_R RX1 (sIx.getD i 0) (sTx.getD i "") (adK i) U
theorem sE_kept {adK adV : Nat → Nat} {A : Nat → Prop} {U : State} {H H1 : Heap} (h : sE adK adV A U H) (hq : ∀ a : Nat, a < H.size → ¬ A a → H1[a]? = H[a]?) : sE adK adV A U H1 := by
  obtain ⟨h1, h2, h3, h4⟩ := h
  exact ⟨h1.kept hq, h2.kept hq, h3.kept hq, h4⟩
theorem sE_narrow {adK adV : Nat → Nat} {A B : Nat → Prop} {U : State} {H : Heap} (h : sE adK adV A U H) (hAB : ∀ q, B q → A q) : sE adK adV B U H := by
  obtain ⟨h1, h2, h3, h4⟩ := h
  exact ⟨h1.narrow hAB, h2.narrow hAB, h3.imp (fun q => q.narrow hAB) (fun ⟨t, q⟩ => ⟨t, q.narrow hAB⟩), h4⟩
theorem sE_warm {adK adV : Nat → Nat} {A : Nat → Prop} {s U : State} {H : Heap} (h : sE adK adV A s H) (hW : s.WarmedH U.vm) : sE adK adV A U H := by
  obtain ⟨h1, h2, h3, h4⟩ := h
  exact ⟨h1.moved hW.alike, h2.moved hW.alike, h3.moved hW.alike, fun i hi => (h4 i hi).warm hW⟩
theorem sE_into {adK adV : Nat → Nat} {A : Nat → Prop} {s U : State} {H : Heap} {locs : List Loc} (h : sE adK adV A s s.heap) (hS : va_S A s.heap H locs) (hU : U.heap = H) (hW : s.WarmedH U.vm) : sE adK adV A U U.heap := by
  rw [hU]; exact sE_warm (sE_kept h hS.2.1) hW
theorem sE_same {adK adV : Nat → Nat} {A : Nat → Prop} {u U : State} {H : Heap} (hv : U.vm = u.vm) (h : sE adK adV A u H) : sE adK adV A U H := by
  obtain ⟨h1, h2, h3, h4⟩ := h
  have ha : u.vm.Alike U.vm := by rw [hv]; exact Vm.Alike.refl _
  exact ⟨h1.moved ha, h2.moved ha, h3.moved ha, fun i hi => vk_R.same hv (h4 i hi)⟩
theorem sE_blind {av : List Value} {adK adV : Nat → Nat} {A : Nat → Prop} : FrameBlind (va_Pc av (fun U => sE adK adV A U U.heap)) := fun b U g mk q => ⟨q.1, sE_same (u := U) (U := U.calling g mk b) rfl q.2⟩
def vpU : Array Value → State → Outcome → State → Prop := fun _ st o t => o = .returned none ∧ t.heap = st.heap
section ST
variable {p : Program} {l : Launch} {e : Env} {R : Room} {s : State} {m : MethodId} {args : Array Value} {below : List Frame} {meth : Method} {c : Code} {H : Heap} {locs : List Loc} {cells slots : Nat} {Q : State → Prop} {cc : ByteArray} {maxL nL : Nat} {ret : Option FieldType} {own : String} {c0 : Cond} {pc : Nat} {ls : Array Slot} {rest st0 : List Value} {adK adV : Nat → Nat} {A : Nat → Prop}
theorem cl_Sv {a : Array Value} (hr : va_Run p l e R s m args below meth c H locs cells slots 0 0 (F0 m pc ls st0) rest (vpU a) (fun _ => False))
    (kk : W p l e R s m args below meth c H locs cells slots Q (F0 m (pc + 3) ls rest)) : W p l e R s m args below meth c H locs cells slots Q (F0 m pc ls st0) := by
  intro T hT X
  obtain ⟨v1, st₀, t, T', L, h0, X', hL, e1, e2, ⟨hv, hh⟩, st⟩ := hr T hT X
  cases hv
  have hLn : L = [] := by
    cases L with
    | nil => rfl
    | cons q L => exact (hL q List.mem_cons_self).elim
  subst hLn
  rw [List.append_nil] at X'
  obtain ⟨t2, a1, b1⟩ := kk T' (e1.trans (hh.trans h0)) X'
  exact ⟨t2, st t2 a1, b1⟩
theorem st_callV {y : MethodName} {bytes : ByteArray} {mL n index : Nat} {rt : Option FieldType} {ws : List Cond} {rm : Room} {As : List Value} {v : Int32} (i : Nat) (hi : i < 5) (hx : p.tables.exec = Jvm.exec) (hb : c.code = cc) (hml : c.maxLocals = nL) (hown : s.vm.findClass own = some m.cls) (hts : ∀ w ∈ c0 :: W0, w.before args s = true) (hE : sE adK adV A s s.heap) (hS : va_S A s.heap H locs)
    (hM : Met l y ws rm (va_Pc (.ref (adK i) :: As) (fun U => sE adK adV A U U.heap)) (vp_Si (fun r => r = v)) 0 0 (fun _ => False)) (cw : CallW R s args own RJ0 index y bytes mL rt ws rm 0 0 n)
    (hn : As.length = n) (hsize : ls.size = nL) (hst : st0 = As.reverse ++ .ref (adK i) :: rest) (hW : (rest.map fun v => v.category).sum ≤ 8) (d : decode cc pc = .ok (.invokevirtual index, 3)) (hc : cells ≤ R.cells) (hs : slots ≤ R.slots)
    (kk : W p l e R s m args below meth c H locs cells slots Q (F0 m (pc + 3) ls (.int v :: rest))) : W p l e R s m args below meth c H locs cells slots Q (F0 m pc ls st0) :=
  cl_Si (va_runV (As := As) (rest := rest) ⟨hx, hb, hml, hown, hts⟩ hM cw ⟨sE_blind, vk_recv hE.1 hi hS, fun U hU hW => ⟨rfl, sE_into hE hS hU hW⟩⟩ rfl hn hsize hst (lv_room hW) d ⟨hc, hs⟩) kk
theorem st_callS {y : MethodName} {bytes : ByteArray} {mL n index : Nat} {rt : Option FieldType} {ws : List Cond} {rm : Room} {As : List Value} {v : Int32} (hx : p.tables.exec = Jvm.exec) (hb : c.code = cc) (hml : c.maxLocals = nL) (hown : s.vm.findClass own = some m.cls) (hts : ∀ w ∈ c0 :: W0, w.before args s = true) (hE : sE adK adV A s s.heap) (hS : va_S A s.heap H locs)
    (hM : Met l y ws rm (va_Pc As (fun U => sE adK adV A U U.heap)) (vp_Si (fun r => r = v)) 0 0 (fun _ => False)) (cw : CallB R s args own index y bytes mL rt ws rm 0 0 n ∧ (Cond.static y).before args s = true)
    (hn : As.length = n) (hsize : ls.size = nL) (hst : st0 = As.reverse ++ rest) (hW : (rest.map fun v => v.category).sum ≤ 8) (d : decode cc pc = .ok (.invokestatic index, 3)) (hc : cells ≤ R.cells) (hs : slots ≤ R.slots)
    (kk : W p l e R s m args below meth c H locs cells slots Q (F0 m (pc + 3) ls (.int v :: rest))) : W p l e R s m args below meth c H locs cells slots Q (F0 m pc ls st0) :=
  cl_Si (va_runS (As := As) (rest := rest) ⟨hx, hb, hml, hown, hts⟩ hM cw ⟨sE_blind, fun U hU hW => ⟨rfl, sE_into hE hS hU hW⟩⟩ rfl hn hsize hst (lv_room hW) d ⟨hc, hs⟩) kk
theorem st_callU {y : MethodName} {bytes : ByteArray} {mL n index : Nat} {rt : Option FieldType} {ws : List Cond} {rm : Room} {As : List Value} (hx : p.tables.exec = Jvm.exec) (hb : c.code = cc) (hml : c.maxLocals = nL) (hown : s.vm.findClass own = some m.cls) (hts : ∀ w ∈ c0 :: W0, w.before args s = true) (hE : sE adK adV A s s.heap) (hS : va_S A s.heap H locs)
    (hM : Met l y ws rm (va_Pc As (fun U => sE adK adV A U U.heap)) vpU 0 0 (fun _ => False)) (cw : CallB R s args own index y bytes mL rt ws rm 0 0 n ∧ (Cond.static y).before args s = true)
    (hn : As.length = n) (hsize : ls.size = nL) (hst : st0 = As.reverse ++ rest) (hW : (rest.map fun v => v.category).sum ≤ 8) (d : decode cc pc = .ok (.invokestatic index, 3)) (hc : cells ≤ R.cells) (hs : slots ≤ R.slots)
    (kk : W p l e R s m args below meth c H locs cells slots Q (F0 m (pc + 3) ls rest)) : W p l e R s m args below meth c H locs cells slots Q (F0 m pc ls st0) :=
  cl_Sv (va_runS (As := As) (rest := rest) ⟨hx, hb, hml, hown, hts⟩ hM cw ⟨sE_blind, fun U hU hW => ⟨rfl, sE_into hE hS hU hW⟩⟩ rfl hn hsize hst (lv_room hW) d ⟨hc, hs⟩) kk
theorem fin_n {ty : FieldType} {w v : Int32} (hx : p.tables.exec = Jvm.exec) (hb : c.code = cc) (hr : meth.sig.returnType = some ty) (hlk : meth.locks = false) (hn : narrow ty (.int v) = .int v) (h : v = w) (d : decode cc pc = .ok (.ireturn, 1)) :
    W p l e R s m args below meth c s.heap [] 0 0 (MQ below (vp_Si (fun r => r = w)) args s 0 0 (fun _ => False)) (F0 m pc ls [.int v]) :=
  W.zret hx hb hr hn (fun t ht _ => ⟨v, rfl, h, ht⟩) (fun q hq => absurd hq List.not_mem_nil) d hlk
end ST
abbrev rm_J3_checkIndex : Room := { frames := 0, cells := 0, slots := 0, locals := 0 }
abbrev rm_J0_checkIndex : Room := { frames := 1, cells := 0, slots := 0, locals := 22 }
abbrev rm_J1_charAt : Room := { frames := 2, cells := 0, slots := 0, locals := 43 }
abbrev rm_J0_leaf : Room := { frames := 0, cells := 0, slots := 0, locals := 0 }
abbrev rm_J0_length : Room := { frames := 1, cells := 0, slots := 0, locals := 20 }
abbrev rm_J0_charAt : Room := { frames := 3, cells := 0, slots := 0, locals := 64 }
theorem c_J3_checkIndex (l : Launch) (k n t : Nat) (hk : k < n) (hn : n ≤ 100) :
    Met l yJ3_checkIndex_8e157 (Cond.code yJ3_checkIndex_8e157 cJ3_checkIndex_8e157 3 (some .int) :: W0) rm_J3_checkIndex (va_Pc [.int (nI k), .int (nI n), .ref t] (fun _ => True)) (vp_Si (fun r => r = nI k)) 0 0 (fun _ => False) := by
  refine st_gen (cc := cJ3_checkIndex_8e157) (maxL := 3) (ret := some .int) (own := RJ3) (by decide) rfl (Nat.le_of_ble_eq_true rfl) ?_
  intro p e s m below meth c ls C hPre hl
  obtain ⟨hx, hb, hr, hml, hown, hts, hlk⟩ := C
  have hl : lv_has ls 3 [(0, .int (nI k)), (1, .int (nI n)), (2, .ref t)] := hl
  refine lv_iload_n hx hb dJ3_checkIndex_8e157_0 rfl (lv_at hl 0 rfl) ?_
  refine lv_if_lt (tgt := 9) hx hb dJ3_checkIndex_8e157_1 (by decide) (fun q => absurd q (nI_pos (by omega))) (fun _ => ?_)
  refine lv_iload_n hx hb dJ3_checkIndex_8e157_4 rfl (lv_at hl 0 rfl) ?_
  refine lv_iload_n hx hb dJ3_checkIndex_8e157_5 rfl (lv_at hl 1 rfl) ?_
  refine lv_icmp_ltN k n hx hb rfl rfl (by omega) (by omega) (tgt := 16) dJ3_checkIndex_8e157_6 (by decide) (fun _ => ?_) (fun q => absurd hk q)
  refine lv_iload_n hx hb dJ3_checkIndex_8e157_16 rfl (lv_at hl 0 rfl) ?_
  exact fin_i hx hb hr hlk rfl dJ3_checkIndex_8e157_17
theorem c_J3_checkIndexN (l : Launch) (k n : Nat) (hk : k < n) (hn : n ≤ 100) :
    Met l yJ3_checkIndex_8e157 (Cond.code yJ3_checkIndex_8e157 cJ3_checkIndex_8e157 3 (some .int) :: W0) rm_J3_checkIndex (va_Pc [.int (nI k), .int (nI n), .null] (fun _ => True)) (vp_Si (fun r => r = nI k)) 0 0 (fun _ => False) := by
  refine st_gen (cc := cJ3_checkIndex_8e157) (maxL := 3) (ret := some .int) (own := RJ3) (by decide) rfl (Nat.le_of_ble_eq_true rfl) ?_
  intro p e s m below meth c ls C hPre hl
  obtain ⟨hx, hb, hr, hml, hown, hts, hlk⟩ := C
  have hl : lv_has ls 3 [(0, .int (nI k)), (1, .int (nI n)), (2, .null)] := hl
  refine lv_iload_n hx hb dJ3_checkIndex_8e157_0 rfl (lv_at hl 0 rfl) ?_
  refine lv_if_lt (tgt := 9) hx hb dJ3_checkIndex_8e157_1 (by decide) (fun q => absurd q (nI_pos (by omega))) (fun _ => ?_)
  refine lv_iload_n hx hb dJ3_checkIndex_8e157_4 rfl (lv_at hl 0 rfl) ?_
  refine lv_iload_n hx hb dJ3_checkIndex_8e157_5 rfl (lv_at hl 1 rfl) ?_
  refine lv_icmp_ltN k n hx hb rfl rfl (by omega) (by omega) (tgt := 16) dJ3_checkIndex_8e157_6 (by decide) (fun _ => ?_) (fun q => absurd hk q)
  refine lv_iload_n hx hb dJ3_checkIndex_8e157_16 rfl (lv_at hl 0 rfl) ?_
  exact fin_i hx hb hr hlk rfl dJ3_checkIndex_8e157_17
theorem c_J0_checkIndex (l : Launch) (adK adV : Nat → Nat) (A : Nat → Prop) (k n : Nat) (hk : k < n) (hn : n ≤ 100) :
    Met l yJ0_checkIndex_df160 (Cond.code yJ0_checkIndex_df160 cJ0_checkIndex_df160 2 (none) :: W0) rm_J0_checkIndex (va_Pc [.int (nI k), .int (nI n)] (fun U => sE adK adV A U U.heap)) vpU 0 0 (fun _ => False) := by
  refine st_gen (cc := cJ0_checkIndex_df160) (maxL := 2) (ret := none) (own := RJ0) (by decide) rfl (Nat.le_of_ble_eq_true rfl) ?_
  intro p e s m below meth c ls C hE hl
  obtain ⟨hx, hb, hr, hml, hown, hts, hlk⟩ := C
  have hS : va_S A s.heap s.heap [] := va_S.rf
  have hl : lv_has ls 2 [(0, .int (nI k)), (1, .int (nI n))] := hl
  rcases hE.2.2.1 with hZ | ⟨t, hZ⟩
  · refine lv_iload_n hx hb dJ0_checkIndex_df160_0 rfl (lv_at hl 0 rfl) ?_
    refine lv_iload_n hx hb dJ0_checkIndex_df160_1 rfl (lv_at hl 1 rfl) ?_
    refine va_gets hx hb hZ hS hown (hts _ (List.mem_cons_of_mem _ mf_J0_1053)) (fun _ h => h) dJ0_checkIndex_df160_2 ?_
    refine cl_S (rest := []) hx hb hml hown hts (c_J3_checkIndexN l k n hk hn) (va_cwS 3 hts (gdS ml_J0_1059 mst_yJ3_checkIndex_8e157 mini_J3 mc_yJ3_checkIndex_8e157) rfl rfl rfl (by decide +kernel) ⟨(Nat.le_of_ble_eq_true rfl), (Nat.le_of_ble_eq_true rfl)⟩) rfl hl.1 rfl (Nat.le_of_ble_eq_true rfl) dJ0_checkIndex_df160_5 (Nat.zero_le _) (Nat.zero_le _) ?_
    refine lv_pop hx hb dJ0_checkIndex_df160_8 rfl ?_
    exact W.vret hx hb hr (fun t ht _ => ⟨rfl, ht⟩) (fun q hq => absurd hq List.not_mem_nil) dJ0_checkIndex_df160_9 hlk
  · refine lv_iload_n hx hb dJ0_checkIndex_df160_0 rfl (lv_at hl 0 rfl) ?_
    refine lv_iload_n hx hb dJ0_checkIndex_df160_1 rfl (lv_at hl 1 rfl) ?_
    refine va_gets hx hb hZ hS hown (hts _ (List.mem_cons_of_mem _ mf_J0_1053)) (fun _ h => h) dJ0_checkIndex_df160_2 ?_
    refine cl_S (rest := []) hx hb hml hown hts (c_J3_checkIndex l k n t hk hn) (va_cwS 3 hts (gdS ml_J0_1059 mst_yJ3_checkIndex_8e157 mini_J3 mc_yJ3_checkIndex_8e157) rfl rfl rfl (by decide +kernel) ⟨(Nat.le_of_ble_eq_true rfl), (Nat.le_of_ble_eq_true rfl)⟩) rfl hl.1 rfl (Nat.le_of_ble_eq_true rfl) dJ0_checkIndex_df160_5 (Nat.zero_le _) (Nat.zero_le _) ?_
    refine lv_pop hx hb dJ0_checkIndex_df160_8 rfl ?_
    exact W.vret hx hb hr (fun t ht _ => ⟨rfl, ht⟩) (fun q hq => absurd hq List.not_mem_nil) dJ0_checkIndex_df160_9 hlk
theorem c_J1_charAt (l : Launch) (adK adV : Nat → Nat) (A : Nat → Prop) (i k : Nat) (hi : i < 5) (hk : k < sLen.getD i 0) :
    Met l yJ1_charAt_3b067 (Cond.code yJ1_charAt_3b067 cJ1_charAt_3b067 2 (some .char) :: W0) rm_J1_charAt (va_Pc [.ref (adV i), .int (nI k)] (fun U => sE adK adV A U U.heap)) (vp_Si (fun r => r = sCh i k)) 0 0 (fun _ => False) := by
  refine st_gen (cc := cJ1_charAt_3b067) (maxL := 2) (ret := some .char) (own := RJ1) (by decide) rfl (Nat.le_of_ble_eq_true rfl) ?_
  intro p e s m below meth c ls C hE hl
  obtain ⟨hx, hb, hr, hml, hown, hts, hlk⟩ := C
  have hS : va_S A s.heap s.heap [] := va_S.rf
  have hl : lv_has ls 2 [(0, .ref (adV i)), (1, .int (nI k))] := hl
  have hT := (hE.1.1 i hi).2.2.2
  have hL := sLen_le i
  refine lv_iload_n hx hb dJ1_charAt_3b067_0 rfl (lv_at hl 1 rfl) ?_
  refine lv_aload_n hx hb dJ1_charAt_3b067_1 rfl (lv_at hl 0 rfl) ?_
  refine va_tlen hx hb hT hS (v := nI (sLen.getD i 0)) rfl dJ1_charAt_3b067_2 ?_
  refine st_callU (rest := []) hx hb hml hown hts hE hS (c_J0_checkIndex l adK adV A k (sLen.getD i 0) hk (by omega)) (va_cwS 2 hts (gdS ml_J1_9 mst_yJ0_checkIndex_df160 mini_J0 mc_yJ0_checkIndex_df160) rfl rfl rfl (by decide +kernel) ⟨(Nat.le_of_ble_eq_true rfl), (Nat.le_of_ble_eq_true rfl)⟩) rfl hl.1 rfl (Nat.le_of_ble_eq_true rfl) dJ1_charAt_3b067_3 (Nat.zero_le _) (Nat.zero_le _) ?_
  refine lv_aload_n hx hb dJ1_charAt_3b067_6 rfl (lv_at hl 0 rfl) ?_
  refine lv_iload_n hx hb dJ1_charAt_3b067_7 rfl (lv_at hl 1 rfl) ?_
  refine va_tb hx hb hT hS (i := nI k) (vp_in_nI hk (by omega)) (v := .int (sCh i k)) (by rw [nI_clamp (by omega)]; rfl) dJ1_charAt_3b067_8 ?_
  refine lv_sipush (v := 255) hx hb dJ1_charAt_3b067_9 (by decide) ?_
  refine lv_iand hx hb dJ1_charAt_3b067_12 ?_
  refine lv_i2c (v := sCh i k) hx hb dJ1_charAt_3b067_13 (sCh_ok i hi k hk).1 ?_
  exact fin_n hx hb hr hlk (sCh_ok i hi k hk).2 rfl dJ1_charAt_3b067_14
theorem c_J0_isLatin1 (l : Launch) (adK adV : Nat → Nat) (A : Nat → Prop) (i : Nat) (hi : i < 5) :
    Met l yJ0_isLatin1_aae02 (Cond.code yJ0_isLatin1_aae02 cJ0_isLatin1_aae02 1 (some .boolean) :: W0) rm_J0_leaf (va_Pc [.ref (adK i)] (fun U => sE adK adV A U U.heap)) (vp_Si (fun r => r = 1)) 0 0 (fun _ => False) := by
  refine st_gen (cc := cJ0_isLatin1_aae02) (maxL := 1) (ret := some .boolean) (own := RJ0) (by decide) rfl (Nat.le_of_ble_eq_true rfl) ?_
  intro p e s m below meth c ls C hE hl
  obtain ⟨hx, hb, hr, hml, hown, hts, hlk⟩ := C
  have hS : va_S A s.heap s.heap [] := va_S.rf
  have hl : lv_has ls 1 [(0, .ref (adK i))] := hl
  refine va_gets hx hb hE.2.1 hS hown (hts _ (List.mem_cons_of_mem _ mf_J0_38)) (fun _ h => h) dJ0_isLatin1_aae02_0 ?_
  refine lv_if_eq (tgt := 17) hx hb dJ0_isLatin1_aae02_3 (by decide) (fun q => absurd q (by decide)) (fun _ => ?_)
  refine lv_aload_n hx hb dJ0_isLatin1_aae02_6 rfl (lv_at hl 0 rfl) ?_
  refine vk_getf hx hb (hE.1.1 i hi).2.1 hS hown (hts _ (List.mem_cons_of_mem _ mf_J0_15)) (fun _ h => h) dJ0_isLatin1_aae02_7 ?_
  refine lv_if_ne (tgt := 17) hx hb dJ0_isLatin1_aae02_10 (by decide) (fun q => absurd rfl q) (fun _ => ?_)
  refine lv_iconst (v := 1) hx hb dJ0_isLatin1_aae02_13 (by decide) ?_
  refine lv_goto (tgt := 18) hx hb dJ0_isLatin1_aae02_14 (by decide) ?_
  exact fin_z hx hb hr hlk (Or.inr rfl) rfl dJ0_isLatin1_aae02_18
theorem c_J0_coder (l : Launch) (adK adV : Nat → Nat) (A : Nat → Prop) (i : Nat) (hi : i < 5) :
    Met l yJ0_coder_7d493 (Cond.code yJ0_coder_7d493 cJ0_coder_7d493 1 (some .byte) :: W0) rm_J0_leaf (va_Pc [.ref (adK i)] (fun U => sE adK adV A U U.heap)) (vp_Si (fun r => r = 0)) 0 0 (fun _ => False) := by
  refine st_gen (cc := cJ0_coder_7d493) (maxL := 1) (ret := some .byte) (own := RJ0) (by decide) rfl (Nat.le_of_ble_eq_true rfl) ?_
  intro p e s m below meth c ls C hE hl
  obtain ⟨hx, hb, hr, hml, hown, hts, hlk⟩ := C
  have hS : va_S A s.heap s.heap [] := va_S.rf
  have hl : lv_has ls 1 [(0, .ref (adK i))] := hl
  refine va_gets hx hb hE.2.1 hS hown (hts _ (List.mem_cons_of_mem _ mf_J0_38)) (fun _ h => h) dJ0_coder_7d493_0 ?_
  refine lv_if_eq (tgt := 13) hx hb dJ0_coder_7d493_3 (by decide) (fun q => absurd q (by decide)) (fun _ => ?_)
  refine lv_aload_n hx hb dJ0_coder_7d493_6 rfl (lv_at hl 0 rfl) ?_
  refine vk_getf hx hb (hE.1.1 i hi).2.1 hS hown (hts _ (List.mem_cons_of_mem _ mf_J0_15)) (fun _ h => h) dJ0_coder_7d493_7 ?_
  refine lv_goto (tgt := 14) hx hb dJ0_coder_7d493_10 (by decide) ?_
  exact fin_n hx hb hr hlk (by decide +kernel) rfl dJ0_coder_7d493_14
theorem c_J0_length (l : Launch) (adK adV : Nat → Nat) (A : Nat → Prop) (i : Nat) (hi : i < 5) :
    Met l yJ0_length_8abf5 (Cond.code yJ0_length_8abf5 cJ0_length_8abf5 1 (some .int) :: W0) rm_J0_length (va_Pc [.ref (adK i)] (fun U => sE adK adV A U U.heap)) (vp_Si (fun r => r = nI (sLen.getD i 0))) 0 0 (fun _ => False) := by
  refine st_gen (cc := cJ0_length_8abf5) (maxL := 1) (ret := some .int) (own := RJ0) (by decide) rfl (Nat.le_of_ble_eq_true rfl) ?_
  intro p e s m below meth c ls C hE hl
  obtain ⟨hx, hb, hr, hml, hown, hts, hlk⟩ := C
  have hS : va_S A s.heap s.heap [] := va_S.rf
  have hl : lv_has ls 1 [(0, .ref (adK i))] := hl
  refine lv_aload_n hx hb dJ0_length_8abf5_0 rfl (lv_at hl 0 rfl) ?_
  refine vk_getf hx hb (hE.1.1 i hi).2.2.1 hS hown (hts _ (List.mem_cons_of_mem _ mf_J0_9)) (fun _ h => h) dJ0_length_8abf5_1 ?_
  refine va_tlen hx hb (hE.1.1 i hi).2.2.2 hS (v := nI (sLen.getD i 0)) rfl dJ0_length_8abf5_4 ?_
  refine lv_aload_n hx hb dJ0_length_8abf5_5 rfl (lv_at hl 0 rfl) ?_
  refine st_callV i hi (rest := [.int (nI (sLen.getD i 0))]) hx hb hml hown hts hE hS (c_J0_coder l adK adV A i hi) (cwV 0 hts (gdV ml_J0_335 mi_yJ0_coder_7d493 ms_yJ0_coder_7d493 mini_J0 mc_yJ0_coder_7d493) rfl rfl rfl (by decide +kernel) ⟨(Nat.le_of_ble_eq_true rfl), (Nat.le_of_ble_eq_true rfl)⟩) rfl hl.1 rfl (Nat.le_of_ble_eq_true rfl) dJ0_length_8abf5_6 (Nat.zero_le _) (Nat.zero_le _) ?_
  refine lv_ishr hx hb dJ0_length_8abf5_9 ?_
  exact fin_i hx hb hr hlk (sLen_shr i hi) dJ0_length_8abf5_10
theorem c_J0_charAt (l : Launch) (adK adV : Nat → Nat) (A : Nat → Prop) (i k : Nat) (hi : i < 5) (hk : k < sLen.getD i 0) :
    Met l yJ0_charAt_5068e (Cond.code yJ0_charAt_5068e cJ0_charAt_5068e 2 (some .char) :: W0) rm_J0_charAt (va_Pc [.ref (adK i), .int (nI k)] (fun U => sE adK adV A U U.heap)) (vp_Si (fun r => r = sCh i k)) 0 0 (fun _ => False) := by
  refine st_gen (cc := cJ0_charAt_5068e) (maxL := 2) (ret := some .char) (own := RJ0) (by decide) rfl (Nat.le_of_ble_eq_true rfl) ?_
  intro p e s m below meth c ls C hE hl
  obtain ⟨hx, hb, hr, hml, hown, hts, hlk⟩ := C
  have hS : va_S A s.heap s.heap [] := va_S.rf
  have hl : lv_has ls 2 [(0, .ref (adK i)), (1, .int (nI k))] := hl
  refine lv_aload_n hx hb dJ0_charAt_5068e_0 rfl (lv_at hl 0 rfl) ?_
  refine st_callV i hi (rest := []) hx hb hml hown hts hE hS (c_J0_isLatin1 l adK adV A i hi) (cwV 0 hts (gdV ml_J0_492 mi_yJ0_isLatin1_aae02 ms_yJ0_isLatin1_aae02 mini_J0 mc_yJ0_isLatin1_aae02) rfl rfl rfl (by decide +kernel) ⟨(Nat.le_of_ble_eq_true rfl), (Nat.le_of_ble_eq_true rfl)⟩) rfl hl.1 rfl (Nat.le_of_ble_eq_true rfl) dJ0_charAt_5068e_1 (Nat.zero_le _) (Nat.zero_le _) ?_
  refine lv_if_eq (tgt := 16) hx hb dJ0_charAt_5068e_4 (by decide) (fun q => absurd q (by decide)) (fun _ => ?_)
  refine lv_aload_n hx hb dJ0_charAt_5068e_7 rfl (lv_at hl 0 rfl) ?_
  refine vk_getf hx hb (hE.1.1 i hi).2.2.1 hS hown (hts _ (List.mem_cons_of_mem _ mf_J0_9)) (fun _ h => h) dJ0_charAt_5068e_8 ?_
  refine lv_iload_n hx hb dJ0_charAt_5068e_11 rfl (lv_at hl 1 rfl) ?_
  refine st_callS (rest := []) hx hb hml hown hts hE hS (c_J1_charAt l adK adV A i k hi hk) (va_cwS 2 hts (gdS ml_J0_495 mst_yJ1_charAt_3b067 mini_J1 mc_yJ1_charAt_3b067) rfl rfl rfl (by decide +kernel) ⟨(Nat.le_of_ble_eq_true rfl), (Nat.le_of_ble_eq_true rfl)⟩) rfl hl.1 rfl (Nat.le_of_ble_eq_true rfl) dJ0_charAt_5068e_12 (Nat.zero_le _) (Nat.zero_le _) ?_
  exact fin_n hx hb hr hlk (sCh_ok i hi k hk).2 rfl dJ0_charAt_5068e_15
theorem kV_J0_length {R : Room} {s : State} {args : Array Value} {own : String} {idx : Nat} {c0 : Cond} (hts : ∀ w ∈ c0 :: W0, w.before args s = true) (hl : Cond.methodLink own idx yJ0_length_8abf5 ∈ W0) (hR : rm_J0_length.frames + 1 ≤ R.frames ∧ 8 + (1 + 11) + rm_J0_length.locals ≤ R.locals) : CallW R s args own RJ0 idx yJ0_length_8abf5 cJ0_length_8abf5 1 (some .int) (Cond.code yJ0_length_8abf5 cJ0_length_8abf5 1 (some .int) :: W0) rm_J0_length 0 0 0 := cwV 0 hts (gdV hl mi_yJ0_length_8abf5 ms_yJ0_length_8abf5 mini_J0 mc_yJ0_length_8abf5) rfl rfl rfl (by decide +kernel) hR
theorem kV_J0_charAt {R : Room} {s : State} {args : Array Value} {own : String} {idx : Nat} {c0 : Cond} (hts : ∀ w ∈ c0 :: W0, w.before args s = true) (hl : Cond.methodLink own idx yJ0_charAt_5068e ∈ W0) (hR : rm_J0_charAt.frames + 1 ≤ R.frames ∧ 8 + (2 + 11) + rm_J0_charAt.locals ≤ R.locals) : CallW R s args own RJ0 idx yJ0_charAt_5068e cJ0_charAt_5068e 2 (some .char) (Cond.code yJ0_charAt_5068e cJ0_charAt_5068e 2 (some .char) :: W0) rm_J0_charAt 0 0 1 := cwV 1 hts (gdV hl mi_yJ0_charAt_5068e ms_yJ0_charAt_5068e mini_J0 mc_yJ0_charAt_5068e) rfl rfl rfl (by decide +kernel) hR

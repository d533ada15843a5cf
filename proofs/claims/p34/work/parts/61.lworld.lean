/-! ===== the law's world: a BookRental whose shop is in a state ===== -/
theorem brH_keep {D : va_G} {cI cR : ClassId} {ad : Nat → Nat} {ρ : Nat → Nat → Nat → Int32} {sp kp : Nat} {τ : Nat → Nat → Int32} {H H1 : Heap} {B : Nat → Prop} (hB : brH D cI cR ad ρ sp kp τ H) (hI : brI ad) (hd : ∀ q, brA ad q → ¬ B q) (hf : ∀ q, q < H.size → ¬ B q → H1[q]? = H[q]?) : brH D cI cR ad ρ sp kp τ H1 :=
  ⟨fun i hi => keepP (hB.1 i hi) (fun k q hk => hd _ (br_sh hi ((shD_of (br_D hI hi)).2 k q hk))) hf, keepP hB.2.1 (fun k q hk => hd _ ((hi_D hI).2 k q hk)) hf, keepP hB.2.2.1 (fun k q hk => hd _ (tx_in ((txD_of (tx_D hI)).2 k q hk))) hf, keepP hB.2.2.2 (fun k q hk => hd _ ⟨300, u300, brO_fst hk⟩) hf⟩
/-- two states that a shop's cells can't tell apart -/
def agS (σ σ' : Nat → Nat → Int32) : Prop := (∀ k, k < 4 → σ k 0 = σ' k 0) ∧ ∀ k, 4 ≤ k → k ≤ 17 → ∀ j, j < shLen k → σ k j = σ' k j
theorem agS_cp (σ b c : Nat → Nat → Int32) : agS (cpS (cpS σ b) c) σ := by
  refine ⟨fun k hk => ?_, fun k h4 _ j hj => ?_⟩
  · show (if k < 4 then (fun _ => cpS σ b k 0) else _) 0 = _
    rw [if_pos hk]
    show (if k < 4 then (fun _ => σ k 0) else _) 0 = _
    rw [if_pos hk]
  · show (if k < 4 then _ else cpF (shLen k) (c k) (cpS σ b k)) j = _
    rw [if_neg (by omega)]
    show (if j < shLen k then cpS σ b k j else _) = _
    rw [if_pos hj]
    show (if k < 4 then _ else cpF (shLen k) (b k) (σ k)) j = _
    rw [if_neg (by omega)]
    show (if j < shLen k then σ k j else _) = _
    rw [if_pos hj]
theorem ag_row {D : va_G} {cI : ClassId} {x n : Nat} {f g : Nat → Int32} {H : Heap} (h : ∀ j, j < n → f j = g j) (hP : va_at D vwCl (x, .inl (cI, n, .inl f)) H) : va_at D vwCl (x, .inl (cI, n, .inl g)) H := by
  have h1 : H[x]? = some (vp_cell cI (n, .inl f)) := hP
  exact h1.trans (congrArg some (arrV_ext (fun j hj => congrArg Value.int (h j hj))))
theorem shW_ag {D : va_G} {cI : ClassId} {o : Nat} {a : Nat → Nat} {σ σ' : Nat → Nat → Int32} {H : Heap} (h : agS σ σ') (hP : va_P D vwCl (shW cI o a σ) H) : va_P D vwCl (shW cI o a σ') H := by
  intro k q hk
  match k, hk with
  | 0, hk =>
    cases hk
    have h0 := hP 0 _ rfl
    rw [h.1 0 (by decide), h.1 1 (by decide), h.1 2 (by decide), h.1 3 (by decide)] at h0
    exact h0
  | 1, hk => cases hk; exact ag_row (h.2 4 (by decide) (by decide)) (hP 1 _ rfl)
  | 2, hk => cases hk; exact ag_row (h.2 5 (by decide) (by decide)) (hP 2 _ rfl)
  | 3, hk => cases hk; exact ag_row (h.2 6 (by decide) (by decide)) (hP 3 _ rfl)
  | 4, hk => cases hk; exact ag_row (h.2 7 (by decide) (by decide)) (hP 4 _ rfl)
  | 5, hk => cases hk; exact ag_row (h.2 8 (by decide) (by decide)) (hP 5 _ rfl)
  | 6, hk => cases hk; exact ag_row (h.2 9 (by decide) (by decide)) (hP 6 _ rfl)
  | 7, hk => cases hk; exact ag_row (h.2 10 (by decide) (by decide)) (hP 7 _ rfl)
  | 8, hk => cases hk; exact ag_row (h.2 11 (by decide) (by decide)) (hP 8 _ rfl)
  | 9, hk => cases hk; exact ag_row (h.2 12 (by decide) (by decide)) (hP 9 _ rfl)
  | 10, hk => cases hk; exact ag_row (h.2 13 (by decide) (by decide)) (hP 10 _ rfl)
  | 11, hk => cases hk; exact ag_row (h.2 14 (by decide) (by decide)) (hP 11 _ rfl)
  | 12, hk => cases hk; exact ag_row (h.2 15 (by decide) (by decide)) (hP 12 _ rfl)
  | 13, hk => cases hk; exact ag_row (h.2 16 (by decide) (by decide)) (hP 13 _ rfl)
  | 14, hk => cases hk; exact ag_row (h.2 17 (by decide) (by decide)) (hP 14 _ rfl)
  | k + 15, hk => cases hk
abbrev ST : Type := Nat → Nat → Int32
section LB
variable {D : va_G} {cI cR : ClassId} {ad : Nat → Nat} {ρ : Nat → ST} {sp kp : Nat} {τ σ σ0 : ST} {H H1 : Heap}
theorem brH_ag (h : agS (ρ 0) σ) (hB : brH D cI cR ad ρ sp kp τ H) : brH D cI cR ad (va_up ρ 0 σ) sp kp τ H := by
  refine ⟨fun i hi => ?_, hB.2⟩
  by_cases c : i = 0
  · subst c; rw [va_up_self]; exact shW_ag h (hB.1 0 hi)
  · rw [va_up_ne _ _ c]; exact hB.1 i hi
/-- the shop is in the state σ -/
def lB (D : va_G) (cI cR : ClassId) (ad : Nat → Nat) (σ : ST) (H : Heap) : Prop := ∃ (ρ : Nat → ST) (sp kp : Nat) (τ : ST), (sp < 6 ∧ kp ≤ 5) ∧ ρ 0 = σ ∧ brH D cI cR ad ρ sp kp τ H
/-- .. and the last call that was recorded found it in σ0 -/
def lU (D : va_G) (cI cR : ClassId) (ad : Nat → Nat) (σ σ0 : ST) (H : Heap) : Prop := ∃ (ρ : Nat → ST) (sp kp : Nat) (τ : ST), (sp < 6 ∧ kp ≤ 5) ∧ ρ 0 = σ ∧ brH D cI cR ad ρ sp kp τ H ∧ 0 < kp ∧ ∃ b, ρ ((sp + 6 - 1) % 6 + 1) = cpS σ0 b
theorem lU.B (h : lU D cI cR ad σ σ0 H) : lB D cI cR ad σ H := by
  obtain ⟨ρ, sp, kp, τ, h1, h2, h3, _⟩ := h
  exact ⟨ρ, sp, kp, τ, h1, h2, h3⟩
theorem brH_same (hI : brI ad) (hf : ∀ q : Nat, q < H.size → H1[q]? = H[q]?) (hB : brH D cI cR ad ρ sp kp τ H) : brH D cI cR ad ρ sp kp τ H1 := brH_keep (B := fun _ => False) hB hI (fun _ _ h => h) (fun q h _ => hf q h)
theorem lB.keep (hI : brI ad) (hf : ∀ q : Nat, q < H.size → H1[q]? = H[q]?) (h : lB D cI cR ad σ H) : lB D cI cR ad σ H1 := by
  obtain ⟨ρ, sp, kp, τ, h1, h2, h3⟩ := h
  exact ⟨ρ, sp, kp, τ, h1, h2, brH_same hI hf h3⟩
theorem lU.keep (hI : brI ad) (hf : ∀ q : Nat, q < H.size → H1[q]? = H[q]?) (h : lU D cI cR ad σ σ0 H) : lU D cI cR ad σ σ0 H1 := by
  obtain ⟨ρ, sp, kp, τ, h1, h2, h3, h4⟩ := h
  exact ⟨ρ, sp, kp, τ, h1, h2, brH_same hI hf h3, h4⟩
theorem lQ_of {w : Int32 × ST} (hsp : sp < 6) (hkp : kp ≤ 5) (hB : brH D cI cR ad (rcρ ρ sp w.2) (st_sp w.1 sp) (st_kp w.1 kp) τ H) : lB D cI cR ad w.2 H ∧ (¬ w.1 < 0 → lU D cI cR ad w.2 (ρ 0) H) := by
  have e0 : (rcρ ρ sp w.2) 0 = w.2 := va_up_self _ _ _
  refine ⟨⟨_, _, _, _, ⟨?_, ?_⟩, e0, hB⟩, fun h => ⟨_, _, _, _, ⟨?_, ?_⟩, e0, hB, ?_, ρ (sp + 1), ?_⟩⟩
  · unfold st_sp; split <;> omega
  · unfold st_kp; split
    · exact hkp
    · split <;> omega
  · unfold st_sp; split <;> omega
  · unfold st_kp; split
    · exact hkp
    · split <;> omega
  · unfold st_kp; rw [if_neg h]; split <;> omega
  · have e : (st_sp w.1 sp + 6 - 1) % 6 = sp := by unfold st_sp; rw [if_neg h]; omega
    rw [e]
    unfold rcρ
    rw [va_up_ne _ _ (by omega), va_up_self]
/-- what a call on the BookRental finds of statics and nests, whatever the heap -/
def lE (v : EN) (ad : Nat → Nat) (s : State) (H : Heap) : Prop := ∀ U : State, U.heap = H → s.WarmedH U.vm → eE v (brA ad) U U.heap ∧ nE U
theorem lE_of {v : EN} {A : Nat → Prop} {s : State} {locs : List Loc} (hE : eE v A s s.heap) (hN : nE s) (hbA : ∀ q, brA ad q → A q) (hS : va_S A s.heap H locs) : lE v ad s H := fun U hU hW => ⟨eE_narrow (eE_into hE hS hU hW) hbA, nE_warm hW hN⟩
/-- .. where only new cells have been written -/
theorem lE_new {v : EN} {s : State} (hE : eE v (brA ad) s s.heap) (hN : nE s) (h1 : s.heap.size ≤ H.size) (h2 : ∀ q : Nat, q < s.heap.size → H[q]? = s.heap[q]?) : lE v ad s H := lE_of (locs := []) hE hN (fun _ h => h) ⟨h1, fun q h _ => h2 q h, fun _ h => by cases h⟩
def lX (D : va_G) (cI cR : ClassId) (ad : Nat → Nat) (v : EN) (σ : ST) (U : State) : Prop := (lB D cI cR ad σ U.heap ∧ brK D cI cR U ∧ brI ad) ∧ eE v (brA ad) U U.heap ∧ nE U
theorem lX_blind {av : List Value} {v : EN} : FrameBlind (va_Pc av (lX D cI cR ad v σ)) := fun b U g mk q => ⟨q.1, ⟨q.2.1.1, va_K.moved (u := U) (U := U.calling g mk b) (Vm.Alike.refl U.vm) q.2.1.2.1, q.2.1.2.2⟩, eE_same (u := U) (U := U.calling g mk b) rfl q.2.2.1, nE_same (u := U) (U := U.calling g mk b) rfl q.2.2.2⟩
end LB
section LWR
variable {p : Program} {l : Launch} {e : Env} {R : Room} {s : State} {m : MethodId} {args : Array Value} {below : List Frame} {meth : Method} {c : Code} {H : Heap} {locs : List Loc} {cells slots : Nat} {Q : State → Prop} {cc : ByteArray} {nL : Nat} {own : String} {c0 : Cond} {pc : Nat} {ls : Array Slot} {rest st0 : List Value} {D : va_G} {cI cR : ClassId} {ad : Nat → Nat} {v : EN} {σ σ0 : ST} {A : Nat → Prop}
variable {y : MethodName} {bytes : ByteArray} {mL n index : Nat} {rt : Option FieldType} {ws : List Cond} {rm : Room} {As : List Value}
/-- a call that tells an int -/
theorem lb_P {w : Int32} (hx : p.tables.exec = Jvm.exec) (hb : c.code = cc) (hml : c.maxLocals = nL) (hown : s.vm.findClass own = some m.cls) (hts : ∀ w ∈ c0 :: W0, w.before args s = true) (hK : brK D cI cR s) (hI : brI ad) (hB : lB D cI cR ad σ H) (hE : lE v ad s H)
    (hM : ∀ ρ sp kp τ, ρ 0 = σ → Met l y ws rm (va_Pc (.ref (ad 300) :: As) (brX D cI cR ad v ρ sp kp τ)) (vp_Si (fun r => r = w)) 0 0 (fun _ => False)) (cw : CallW R s args own RX3 index y bytes mL rt ws rm 0 0 n)
    (hn : As.length = n) (hsize : ls.size = nL) (hst : st0 = As.reverse ++ .ref (ad 300) :: rest) (hW : (rest.map fun v => v.category).sum ≤ 8) (d : decode cc pc = .ok (.invokevirtual index, 3)) (hc : cells ≤ R.cells) (hs : slots ≤ R.slots)
    (kk : W p l e R s m args below meth c H locs cells slots Q (F0 m (pc + 3) ls (.int w :: rest))) : W p l e R s m args below meth c H locs cells slots Q (F0 m pc ls st0) := by
  obtain ⟨ρ, sp, kp, τ, _, h2, h3⟩ := hB
  exact cl_Si (va_runV (As := As) (rest := rest) ⟨hx, hb, hml, hown, hts⟩ (hM ρ sp kp τ h2) cw ⟨brX_blind, br_recv hK h3, fun U hU hW => ⟨rfl, ⟨by rw [hU]; exact h3, va_K.moved hW.alike hK, hI⟩, (hE U hU hW).1⟩⟩ rfl hn hsize hst (lv_room hW) d ⟨hc, hs⟩) kk
theorem cl_SL {a : Array Value} {h : Int64} (hr : va_Run p l e R s m args below meth c H locs cells slots 0 0 (F0 m pc ls st0) rest (vpL h a) (fun _ => False))
    (kk : W p l e R s m args below meth c H locs cells slots Q (F0 m (pc + 3) ls (.long h :: rest))) : W p l e R s m args below meth c H locs cells slots Q (F0 m pc ls st0) := by
  intro T hT X
  obtain ⟨v1, st₀, t, T', L, h0, X', hL, e1, e2, ⟨hv, hh⟩, st⟩ := hr T hT X
  cases hv
  have hLn : L = [] := by
    cases L with
    | nil => rfl
    | cons q L => exact (hL q List.mem_cons_self).elim
  subst hLn
  rw [List.append_nil] at X'
  obtain ⟨t2, a1, b1⟩ := kk T' (e1.trans (hh.trans h0)) X'
  exact ⟨t2, st t2 a1, b1⟩
/-- the digest -/
theorem lb_L {w : Int64} (hx : p.tables.exec = Jvm.exec) (hb : c.code = cc) (hml : c.maxLocals = nL) (hown : s.vm.findClass own = some m.cls) (hts : ∀ w ∈ c0 :: W0, w.before args s = true) (hK : brK D cI cR s) (hI : brI ad) (hB : lB D cI cR ad σ H) (hE : lE v ad s H)
    (hM : ∀ ρ sp kp τ, ρ 0 = σ → Met l y ws rm (va_Pc (.ref (ad 300) :: As) (fun U => brP D cI cR ad ρ sp kp τ U ∧ nE U)) (vpL w) 0 0 (fun _ => False)) (cw : CallW R s args own RX3 index y bytes mL rt ws rm 0 0 n)
    (hn : As.length = n) (hsize : ls.size = nL) (hst : st0 = As.reverse ++ .ref (ad 300) :: rest) (hW : (rest.map fun v => v.category).sum ≤ 8) (d : decode cc pc = .ok (.invokevirtual index, 3)) (hc : cells ≤ R.cells) (hs : slots ≤ R.slots)
    (kk : W p l e R s m args below meth c H locs cells slots Q (F0 m (pc + 3) ls (.long w :: rest))) : W p l e R s m args below meth c H locs cells slots Q (F0 m pc ls st0) := by
  obtain ⟨ρ, sp, kp, τ, _, h2, h3⟩ := hB
  exact cl_SL (va_runV (As := As) (rest := rest) ⟨hx, hb, hml, hown, hts⟩ (hM ρ sp kp τ h2) cw ⟨brN_blind, br_recv hK h3, fun U hU hW => ⟨rfl, ⟨by rw [hU]; exact h3, va_K.moved hW.alike hK, hI⟩, (hE U hU hW).2⟩⟩ rfl hn hsize hst (lv_room hW) d ⟨hc, hs⟩) kk
/-- a call that leaves another state behind, and an int -/
theorem lb_run {mc ms : Nat} {Qa : State → Outcome → State → Prop} {free : Addr → Prop} {w : Int32} {B : Heap → Prop} (hr : va_Run p l e R s m args below meth c H locs cells slots mc ms (F0 m pc ls st0) rest Qa free) (hfree : ∀ q, free q → A q) (hS : va_S A s.heap H locs)
    (hq : ∀ (v : Option Value) (st₀ t : State), st₀.heap = H → Qa st₀ (.returned v) t → v = some (.int w) ∧ va_F A st₀ t ∧ (B t.heap))
    (kk : ∀ (H1 : Heap) (locs1 : List Loc), B H1 → va_S A s.heap H1 locs1 → W p l e R s m args below meth c H1 locs1 (cells + mc) (slots + ms) Q (F0 m (pc + 3) ls (.int w :: rest))) : W p l e R s m args below meth c H locs cells slots Q (F0 m pc ls st0) := by
  intro T hT X
  obtain ⟨v1, st₀, t, T', L, h0, X', hL1, e1, e2, hqa, st⟩ := hr T hT X
  obtain ⟨hv, hF, hp⟩ := hq v1 st₀ t h0 hqa
  subst hv
  obtain ⟨t2, a1, b1⟩ := kk T'.heap (locs ++ L) (by rw [e1]; exact hp) ⟨Nat.le_trans hS.1 (by rw [e1, ← h0]; exact hF.1), fun z h1 h2 => by rw [e1, hF.2 z (by rw [h0]; exact Nat.lt_of_lt_of_le h1 hS.1) h2, h0]; exact hS.2.1 z h1 h2, fun z hz => by
      rcases List.mem_append.mp hz with h | h
      · exact hS.2.2 z h
      · exact hfree _ (hL1 z h)⟩ T' rfl X'
  exact ⟨t2, st t2 a1, b1⟩
theorem va_F.mono {B : Nat → Prop} {st t : State} (h : va_F B st t) (hBA : ∀ q, B q → A q) : va_F A st t := ⟨h.1, fun q h1 h2 => h.2 q h1 (fun z => h2 (hBA q z))⟩
/-- a recorded call -/
theorem lb_Q {w : Int32 × ST} (hx : p.tables.exec = Jvm.exec) (hb : c.code = cc) (hml : c.maxLocals = nL) (hown : s.vm.findClass own = some m.cls) (hts : ∀ w ∈ c0 :: W0, w.before args s = true) (hK : brK D cI cR s) (hI : brI ad) (hB : lB D cI cR ad σ H) (hE : lE v ad s H) (hbA : ∀ q, brA ad q → A q) (hS : va_S A s.heap H locs)
    (hM : ∀ ρ sp kp τ, sp < 6 → kp ≤ 5 → ρ 0 = σ → Met l y ws rm (va_Pc (.ref (ad 300) :: As) (brX D cI cR ad v ρ sp kp τ)) (brQ D cI cR ad w.1 (rcρ ρ sp w.2) (st_sp w.1 sp) (st_kp w.1 kp) τ) 0 0 (brA ad)) (cw : CallW R s args own RX3 index y bytes mL rt ws rm 0 0 n)
    (hn : As.length = n) (hsize : ls.size = nL) (hst : st0 = As.reverse ++ .ref (ad 300) :: rest) (hW : (rest.map fun v => v.category).sum ≤ 8) (d : decode cc pc = .ok (.invokevirtual index, 3)) (hc : cells ≤ R.cells) (hs : slots ≤ R.slots)
    (kk : ∀ (H1 : Heap) (locs1 : List Loc), lB D cI cR ad w.2 H1 → (¬ w.1 < 0 → lU D cI cR ad w.2 σ H1) → va_S A s.heap H1 locs1 → W p l e R s m args below meth c H1 locs1 cells slots Q (F0 m (pc + 3) ls (.int w.1 :: rest))) : W p l e R s m args below meth c H locs cells slots Q (F0 m pc ls st0) := by
  obtain ⟨ρ, sp, kp, τ, ⟨h0, h1⟩, h2, h3⟩ := hB
  refine lb_run (A := A) (B := fun H1 => lB D cI cR ad w.2 H1 ∧ (¬ w.1 < 0 → lU D cI cR ad w.2 σ H1)) (va_runV (As := As) (rest := rest) ⟨hx, hb, hml, hown, hts⟩ (hM ρ sp kp τ h0 h1 h2) cw ⟨brX_blind, br_recv hK h3, fun U hU hW => ⟨rfl, ⟨by rw [hU]; exact h3, va_K.moved hW.alike hK, hI⟩, (hE U hU hW).1⟩⟩ rfl hn hsize hst (lv_room hW) d ⟨hc, hs⟩) hbA hS (fun v1 st₀ t _ hq => ?_) (fun H1 locs1 hB hS => kk H1 locs1 hB.1 hB.2 hS)
  obtain ⟨hv, hp, hF⟩ := hq
  cases hv
  refine ⟨rfl, hF.mono hbA, ?_⟩
  have := lQ_of h0 h1 hp
  rw [h2] at this
  exact this
/-- undo -/
theorem lb_U (hx : p.tables.exec = Jvm.exec) (hb : c.code = cc) (hml : c.maxLocals = nL) (hown : s.vm.findClass own = some m.cls) (hts : ∀ w ∈ c0 :: W0, w.before args s = true) (hK : brK D cI cR s) (hI : brI ad) (hB : lU D cI cR ad σ σ0 H) (hE : lE v ad s H) (hbA : ∀ q, brA ad q → A q) (hS : va_S A s.heap H locs)
    (cw : CallW R s args own RX3 index yX3_undo bytes mL rt (Cond.code yX3_undo cX3_undo 1 (some .int) :: W0) rm_X3_undo 0 0 0)
    (hsize : ls.size = nL) (hst : st0 = .ref (ad 300) :: rest) (hW : (rest.map fun v => v.category).sum ≤ 8) (d : decode cc pc = .ok (.invokevirtual index, 3)) (hc : cells ≤ R.cells) (hs : slots ≤ R.slots)
    (kk : ∀ (H1 : Heap) (locs1 : List Loc) (r : Int32), ¬ r < 0 → lB D cI cR ad σ0 H1 → va_S A s.heap H1 locs1 → W p l e R s m args below meth c H1 locs1 cells slots Q (F0 m (pc + 3) ls (.int r :: rest))) : W p l e R s m args below meth c H locs cells slots Q (F0 m pc ls st0) := by
  obtain ⟨ρ, sp, kp, τ, ⟨h0, h1⟩, h2, h3, h4, b, h5⟩ := hB
  have hk : ¬ kp = 0 := by omega
  refine lb_run (A := A) (w := rs_v kp) (B := fun H1 => lB D cI cR ad σ0 H1) (va_runV (As := []) (rest := rest) ⟨hx, hb, hml, hown, hts⟩ (c_X3_undo l D cI cR ad v ρ sp kp τ h0 h1) cw ⟨brX_blind, br_recv hK h3, fun U hU hW => ⟨rfl, ⟨by rw [hU]; exact h3, va_K.moved hW.alike hK, hI⟩, (hE U hU hW).1⟩⟩ rfl rfl hsize hst (lv_room hW) d ⟨hc, hs⟩) hbA hS (fun v1 st₀ t _ hq => ?_) (fun H1 locs1 hB hS => kk H1 locs1 _ ?_ hB hS)
  · obtain ⟨hv, hp, hF⟩ := hq
    cases hv
    refine ⟨rfl, hF.mono hbA, va_up (rs_ρ ρ sp kp) 0 σ0, _, _, τ, ⟨?_, ?_⟩, va_up_self _ _ _, brH_ag ?_ hp⟩
    · unfold rs_sp; rw [if_neg hk]; omega
    · omega
    · unfold rs_ρ
      rw [if_neg hk, va_up_self, h5]
      exact agS_cp _ _ _
  · unfold rs_v
    rw [if_neg hk]
    exact nI_pos (by omega)
end LWR

/-! ===== the composite world of a BookRental ===== -/
def brUsed : List Nat := [300, 200, 201, 210, 211] ++ (List.range 7).flatMap (fun i => (20 * i + 1) :: (List.range 14).map (fun k => 20 * i + (k + 4)))
def brI (ad : Nat → Nat) : Prop := ∀ x ∈ brUsed, ∀ y ∈ brUsed, ad x = ad y → x = y
def brA (ad : Nat → Nat) : Nat → Prop := fun q => ∃ x ∈ brUsed, q = ad x
abbrev so (ad : Nat → Nat) (i : Nat) : Nat := ad (20 * i + 1)
abbrev sr (ad : Nat → Nat) (i : Nat) : Nat → Nat := fun k => ad (20 * i + k)
abbrev tr (ad : Nat → Nat) : Nat → Nat := fun k => ad (211 + k)
def shX (n : Nat) : Nat := if n = 0 then 1 else n + 3
theorem shX_in {n : Nat} (h : n < 15) : 1 ≤ shX n ∧ shX n ≤ 17 := by unfold shX; split <;> omega
theorem shX_inj {n k : Nat} (h : shX n = shX k) : n = k := by unfold shX at h; split at h <;> split at h <;> omega
theorem shX_used : ∀ i, i < 7 → ∀ n, n < 15 → 20 * i + shX n ∈ brUsed := by decide +kernel
theorem sh_adr (ad : Nat → Nat) (i n : Nat) : (if n = 0 then so ad i else sr ad i (n + 3)) = ad (20 * i + shX n) := by
  unfold shX
  split <;> rfl
theorem br_sh {ad : Nat → Nat} {i : Nat} (hi : i < 7) {q : Nat} (h : shA (so ad i) (sr ad i) q) : brA ad q := by
  obtain ⟨n, hn, e⟩ := shA_of h
  exact ⟨20 * i + shX n, shX_used i hi n hn, e.trans (sh_adr ad i n)⟩
theorem br_D {ad : Nat → Nat} (hI : brI ad) {i : Nat} (hi : i < 7) : shD (so ad i) (sr ad i) := by
  refine ⟨fun a b p q hp hq h => ?_, fun _ _ _ => trivial⟩
  obtain ⟨ha, ea⟩ := shW_fst hp
  obtain ⟨hb, eb⟩ := shW_fst hq
  rw [sh_adr] at ea eb
  have := hI _ (shX_used i hi a ha) _ (shX_used i hi b hb) (ea.symm.trans (h.trans eb))
  exact shX_inj (by omega)
theorem br_apart {ad : Nat → Nat} (hI : brI ad) {i j : Nat} (hi : i < 7) (hj : j < 7) (hij : i ≠ j) : ∀ q, shA (so ad i) (sr ad i) q → ¬ shA (so ad j) (sr ad j) q := by
  intro q h1 h2
  obtain ⟨n, hn, e1⟩ := shA_of h1
  obtain ⟨k, hk, e2⟩ := shA_of h2
  rw [sh_adr] at e1 e2
  have := hI _ (shX_used i hi n hn) _ (shX_used j hj k hk) (e1.symm.trans e2)
  have b1 := shX_in hn
  have b2 := shX_in hk
  omega
theorem br_out {ad : Nat → Nat} (hI : brI ad) {i x : Nat} (hi : i < 7) (hx : x ∈ brUsed) (h200 : 200 ≤ x) : ¬ shA (so ad i) (sr ad i) (ad x) := by
  intro h
  obtain ⟨n, hn, e⟩ := shA_of h
  rw [sh_adr] at e
  have := hI _ hx _ (shX_used i hi n hn) e
  have b1 := shX_in hn
  omega
def hiW (cR : ClassId) (ad : Nat → Nat) (sp kp : Nat) : va_W := [(ad 200, .inr (0, [.ref (ad 201), .int (nI sp), .int (nI kp)])), (ad 201, .inl (cR, 6, .inr (.inr (.inr (.inr (fun i => some (so ad (i + 1))))))))]
def brO (ad : Nat → Nat) : va_W := [(ad 300, .inr (3, [.ref (so ad 0), .ref (ad 200), .ref (ad 210)]))]
def brH (D : va_G) (cI cR : ClassId) (ad : Nat → Nat) (ρ : Nat → Nat → Nat → Int32) (sp kp : Nat) (τ : Nat → Nat → Int32) (H : Heap) : Prop := (∀ i, i < 7 → va_P D vwCl (shW cI (so ad i) (sr ad i) (ρ i)) H) ∧ va_P D vwCl (hiW cR ad sp kp) H ∧ va_P D vwCl (txW cI (ad 210) (tr ad) τ) H ∧ va_P D vwCl (brO ad) H
def brK (D : va_G) (cI cR : ClassId) (U : State) : Prop := va_K D vwCl [(cI, .int), (cR, .object RX2)] U
theorem brK_1 {D : va_G} {cI cR : ClassId} {U : State} (h : brK D cI cR U) : va_K D vwCl [(cI, .int)] U := va_K.sub h [0] rfl
def brP (D : va_G) (cI cR : ClassId) (ad : Nat → Nat) (ρ : Nat → Nat → Nat → Int32) (sp kp : Nat) (τ : Nat → Nat → Int32) (U : State) : Prop := brH D cI cR ad ρ sp kp τ U.heap ∧ brK D cI cR U ∧ brI ad
theorem br_blind {av : List Value} {D : va_G} {cI cR : ClassId} {ad : Nat → Nat} {ρ : Nat → Nat → Nat → Int32} {sp kp : Nat} {τ : Nat → Nat → Int32} : FrameBlind (va_Pc av (brP D cI cR ad ρ sp kp τ)) := fun b U g mk q => ⟨q.1, q.2.1, va_K.moved (u := U) (U := U.calling g mk b) (Vm.Alike.refl U.vm) q.2.2.1, q.2.2.2⟩
def brQ (D : va_G) (cI cR : ClassId) (ad : Nat → Nat) (w : Int32) (ρ : Nat → Nat → Nat → Int32) (sp kp : Nat) (τ : Nat → Nat → Int32) : Array Value → State → Outcome → State → Prop := fun _ st oc t => oc = .returned (some (.int w)) ∧ brH D cI cR ad ρ sp kp τ t.heap ∧ va_F (brA ad) st t
def brV (D : va_G) (cI cR : ClassId) (ad : Nat → Nat) (ρ : Nat → Nat → Nat → Int32) (sp kp : Nat) (τ : Nat → Nat → Int32) : Array Value → State → Outcome → State → Prop := fun _ st oc t => oc = .returned none ∧ brH D cI cR ad ρ sp kp τ t.heap ∧ va_F (brA ad) st t
theorem u200 : 200 ∈ brUsed := by decide +kernel
theorem u201 : 201 ∈ brUsed := by decide +kernel
theorem u210 : 210 ∈ brUsed := by decide +kernel
theorem u211 : 211 ∈ brUsed := by decide +kernel
theorem u300 : 300 ∈ brUsed := by decide +kernel
theorem hiW_fst {cR : ClassId} {ad : Nat → Nat} {sp kp k : Nat} {q : Nat × va_E} (h : (hiW cR ad sp kp)[k]? = some q) : q.1 = ad 200 ∨ q.1 = ad 201 := by
  match k, h with
  | 0, h => cases h; exact Or.inl rfl
  | 1, h => cases h; exact Or.inr rfl
  | k + 2, h => cases h
theorem txW_fst {cI : ClassId} {ad : Nat → Nat} {τ : Nat → Nat → Int32} {k : Nat} {q : Nat × va_E} (h : (txW cI (ad 210) (tr ad) τ)[k]? = some q) : q.1 = ad 210 ∨ q.1 = ad 211 := by
  match k, h with
  | 0, h => cases h; exact Or.inl rfl
  | 1, h => cases h; exact Or.inr rfl
  | k + 2, h => cases h
theorem brO_fst {ad : Nat → Nat} {k : Nat} {q : Nat × va_E} (h : (brO ad)[k]? = some q) : q.1 = ad 300 := by
  match k, h with
  | 0, h => cases h; rfl
  | k + 1, h => cases h
/-- a shop has changed, nothing else -/
theorem br_updS {D : va_G} {cI cR : ClassId} {ad : Nat → Nat} {ρ : Nat → Nat → Nat → Int32} {sp kp : Nat} {τ : Nat → Nat → Int32} {H H1 : Heap} (hB : brH D cI cR ad ρ sp kp τ H) (hI : brI ad) {i : Nat} (hi : i < 7) {w : Nat → Nat → Int32} (hp : va_P D vwCl (shW cI (so ad i) (sr ad i) w) H1) (hf : ∀ q : Nat, q < H.size → ¬ shA (so ad i) (sr ad i) q → H1[q]? = H[q]?) : brH D cI cR ad (va_up ρ i w) sp kp τ H1 := by
  refine ⟨fun j hj => ?_, keepP hB.2.1 (fun k q hk => ?_) hf, keepP hB.2.2.1 (fun k q hk => ?_) hf, keepP hB.2.2.2 (fun k q hk => ?_) hf⟩
  · by_cases hij : j = i
    · subst hij; rw [va_up_self]; exact hp
    · rw [va_up_ne _ _ hij]
      refine keepP (hB.1 j hj) (fun k q hk hq => ?_) hf
      obtain ⟨hn, e⟩ := shW_fst hk
      exact br_apart hI hi hj (fun z => hij z.symm) q.1 hq (e ▸ shA_in hn)
  · rcases hiW_fst hk with e | e <;> rw [e]
    · exact br_out hI hi u200 (by decide)
    · exact br_out hI hi u201 (by decide)
  · rcases txW_fst hk with e | e <;> rw [e]
    · exact br_out hI hi u210 (by decide)
    · exact br_out hI hi u211 (by decide)
  · rw [brO_fst hk]
    exact br_out hI hi u300 (by decide)
theorem br_updT {D : va_G} {cI cR : ClassId} {ad : Nat → Nat} {ρ : Nat → Nat → Nat → Int32} {sp kp : Nat} {τ : Nat → Nat → Int32} {H H1 : Heap} (hB : brH D cI cR ad ρ sp kp τ H) (hI : brI ad) {w : Nat → Nat → Int32} (hp : va_P D vwCl (txW cI (ad 210) (tr ad) w) H1) (hf : ∀ q : Nat, q < H.size → ¬ txA (ad 210) (tr ad) q → H1[q]? = H[q]?) : brH D cI cR ad ρ sp kp w H1 := by
  have no : ∀ x ∈ brUsed, x ≠ 210 → x ≠ 211 → ¬ txA (ad 210) (tr ad) (ad x) := by
    intro x hx h1 h2 h
    rcases h with h | h
    · exact h1 (hI _ hx _ u210 h)
    · exact h2 (hI _ hx _ u211 h)
  refine ⟨fun j hj => keepP (hB.1 j hj) (fun k q hk => ?_) hf, keepP hB.2.1 (fun k q hk => ?_) hf, hp, keepP hB.2.2.2 (fun k q hk => ?_) hf⟩
  · obtain ⟨hn, e⟩ := shW_fst hk
    rw [e, sh_adr]
    have b := shX_in hn
    exact no _ (shX_used j hj k hn) (by omega) (by omega)
  · rcases hiW_fst hk with e | e <;> rw [e]
    · exact no _ u200 (by decide) (by decide)
    · exact no _ u201 (by decide) (by decide)
  · rw [brO_fst hk]
    exact no _ u300 (by decide) (by decide)
theorem br_updH {D : va_G} {cI cR : ClassId} {ad : Nat → Nat} {ρ : Nat → Nat → Nat → Int32} {sp kp : Nat} {τ : Nat → Nat → Int32} {H H1 : Heap} (hB : brH D cI cR ad ρ sp kp τ H) (hI : brI ad) {sp' kp' : Nat} (hp : va_P D vwCl (hiW cR ad sp' kp') H1) (hf : ∀ q : Nat, q ≠ ad 200 → H1[q]? = H[q]?) : brH D cI cR ad ρ sp' kp' τ H1 := by
  have no : ∀ x ∈ brUsed, x ≠ 200 → ¬ (fun q => q = ad 200) (ad x) := fun x hx h1 h => h1 (hI _ hx _ u200 h)
  have hf' : ∀ q : Nat, q < H.size → ¬ (fun q => q = ad 200) q → H1[q]? = H[q]? := fun q _ h => hf q h
  refine ⟨fun j hj => keepP (hB.1 j hj) (fun k q hk => ?_) hf', hp, keepP hB.2.2.1 (fun k q hk => ?_) hf', keepP hB.2.2.2 (fun k q hk => ?_) hf'⟩
  · obtain ⟨hn, e⟩ := shW_fst hk
    rw [e, sh_adr]
    have b := shX_in hn
    exact no _ (shX_used j hj k hn) (by omega)
  · rcases txW_fst hk with e | e <;> rw [e]
    · exact no _ u210 (by decide)
    · exact no _ u211 (by decide)
  · rw [brO_fst hk]
    exact no _ u300 (by decide)
theorem tx_D {ad : Nat → Nat} (hI : brI ad) : txD (ad 210) (tr ad) := by
  refine ⟨fun i j p q hp hq h => ?_, fun _ _ _ => trivial⟩
  match i, j, hp, hq with
  | 0, 0, _, _ => rfl
  | 1, 1, _, _ => rfl
  | 0, 1, hp, hq => cases hp; cases hq; exact absurd (hI _ u210 _ u211 h) (by decide)
  | 1, 0, hp, hq => cases hp; cases hq; exact absurd (hI _ u211 _ u210 h) (by decide)
  | i + 2, _, hp, _ => cases hp
  | 0, j + 2, _, hq => cases hq
  | 1, j + 2, _, hq => cases hq
theorem hi_D {cR : ClassId} {ad : Nat → Nat} {sp kp : Nat} (hI : brI ad) : va_D (brA ad) (hiW cR ad sp kp) := by
  refine ⟨fun i j p q hp hq h => ?_, fun k q hq => ?_⟩
  · match i, j, hp, hq with
    | 0, 0, _, _ => rfl
    | 1, 1, _, _ => rfl
    | 0, 1, hp, hq => cases hp; cases hq; exact absurd (hI _ u200 _ u201 h) (by decide)
    | 1, 0, hp, hq => cases hp; cases hq; exact absurd (hI _ u201 _ u200 h) (by decide)
    | i + 2, _, hp, _ => cases hp
    | 0, j + 2, _, hq => cases hq
    | 1, j + 2, _, hq => cases hq
  · rcases hiW_fst hq with e | e <;> rw [e]
    · exact ⟨200, u200, rfl⟩
    · exact ⟨201, u201, rfl⟩
section BR
variable {p : Program} {l : Launch} {e : Env} {R : Room} {s : State} {m : MethodId} {args : Array Value} {below : List Frame} {meth : Method} {c : Code} {H : Heap} {locs : List Loc} {cells slots : Nat} {Q : State → Prop} {cc : ByteArray} {nL : Nat} {own : String} {c0 : Cond} {pc : Nat} {ls : Array Slot} {rest st0 : List Value} {H0 : Heap} {D : va_G} {cI cR : ClassId} {ad : Nat → Nat} {ρ : Nat → Nat → Nat → Int32} {sp kp : Nat} {τ : Nat → Nat → Int32}
/-- a call that leaves a state behind: what it wrote lies in A1 -/
theorem br_step {Qa : State → Outcome → State → Prop} {free : Addr → Prop} {g : JFrame} (hr : va_Run p l e R s m args below meth c H locs cells slots 0 0 g rest Qa free) (hS : va_S (brA ad) H0 H locs) (hfree : ∀ q, free q → brA ad q)
    (kk : ∀ (v : Option Value) (t st₀ : State) (H1 : Heap) (locs1 : List Loc), st₀.heap = H → t.heap = H1 → Qa st₀ (.returned v) t → (va_F (brA ad) st₀ t → va_S (brA ad) H0 H1 locs1) → (va_F (brA ad) st₀ t) ∧ ((va_S (brA ad) H0 H1 locs1) → W p l e R s m args below meth c H1 locs1 cells slots Q { g with pc := g.pc + 3, stack := v.toList ++ rest })) : W p l e R s m args below meth c H locs cells slots Q g := by
  intro T hT X
  obtain ⟨v1, st₀, t, T', L, h0, X', hL, e1, e2, hq, st⟩ := hr T hT X
  have mk : va_F (brA ad) st₀ t → va_S (brA ad) H0 T'.heap (locs ++ L) := fun hF => ⟨Nat.le_trans hS.1 (by rw [e1, ← h0]; exact hF.1), fun q h1 h2 => by rw [e1, hF.2 q (by rw [h0]; exact Nat.lt_of_lt_of_le h1 hS.1) h2, h0]; exact hS.2.1 q h1 h2, fun q hq => by
      rcases List.mem_append.mp hq with h | h
      · exact hS.2.2 q h
      · exact hfree _ (hL q h)⟩
  obtain ⟨hF, k⟩ := kk v1 t st₀ T'.heap (locs ++ L) h0 e1.symm hq mk
  obtain ⟨t2, a1, b1⟩ := k (mk hF) T' rfl X'
  exact ⟨t2, st t2 a1, b1⟩
theorem br_F {st₀ t : State} {A1 : Nat → Prop} (hF : va_F A1 st₀ t) (h : ∀ q, A1 q → brA ad q) : va_F (brA ad) st₀ t := ⟨hF.1, fun q h1 h2 => hF.2 q h1 (fun z => h2 (h q z))⟩
/-- a call of the shop that changes it -/
theorem br_callS {y : MethodName} {bytes : ByteArray} {mL n index : Nat} {rt : Option FieldType} {ws : List Cond} {rm : Room} {As : List Value} {w : Int32 × (Nat → Nat → Int32)} (hx : p.tables.exec = Jvm.exec) (hb : c.code = cc) (hml : c.maxLocals = nL) (hown : s.vm.findClass own = some m.cls) (hts : ∀ w ∈ c0 :: W0, w.before args s = true) (hK : brK D cI cR s) (hB : brH D cI cR ad ρ sp kp τ H) (hI : brI ad) (hS : va_S (brA ad) H0 H locs) (i : Nat) (hi : i < 7)
    (hM : Met l y ws rm (va_Pc (.ref (so ad i) :: As) (shM D cI (so ad i) (sr ad i) (ρ i))) (shQ D cI (so ad i) (sr ad i) w) 0 0 (shA (so ad i) (sr ad i))) (cw : CallW R s args own RX2 index y bytes mL rt ws rm 0 0 n)
    (hn : As.length = n) (hsize : ls.size = nL) (hst : st0 = As.reverse ++ .ref (so ad i) :: rest) (hW : (rest.map fun v => v.category).sum ≤ 8) (d : decode cc pc = .ok (.invokevirtual index, 3)) (hc : cells ≤ R.cells) (hs : slots ≤ R.slots)
    (kk : ∀ (H1 : Heap) (locs1 : List Loc), brH D cI cR ad (va_up ρ i w.2) sp kp τ H1 → va_S (brA ad) H0 H1 locs1 → W p l e R s m args below meth c H1 locs1 cells slots Q (F0 m (pc + 3) ls (.int w.1 :: rest))) : W p l e R s m args below meth c H locs cells slots Q (F0 m pc ls st0) := by
  refine br_step (va_runV (As := As) (rest := rest) ⟨hx, hb, hml, hown, hts⟩ hM cw ⟨sh_blindM, va_recv (ci := 2) (q0 := 0) (brK_1 hK) (hB.1 i hi) rfl rfl, fun U hU hW => ⟨rfl, ⟨by rw [hU]; exact hB.1 i hi, va_K.moved hW.alike (brK_1 hK)⟩, br_D hI hi⟩⟩ (g := F0 m pc ls st0) rfl hn hsize hst (lv_room hW) d ⟨hc, hs⟩) hS (fun q h => br_sh hi h) (fun v t st₀ H1 locs1 h0 ht hq mk => ?_)
  obtain ⟨hv, hp, hF⟩ := hq
  cases hv
  refine ⟨br_F hF (fun q h => br_sh hi h), fun hS1 => kk H1 locs1 (br_updS hB hI hi (by rw [← ht]; exact hp.1) (fun q h1 h2 => by rw [← ht, hF.2 q (by rw [h0]; exact h1) h2, h0])) hS1⟩
theorem tx_in {q : Nat} (h : txA (ad 210) (tr ad) q) : brA ad q := by
  rcases h with h | h
  · exact ⟨210, u210, h⟩
  · exact ⟨211, u211, h⟩
theorem br_callT {y : MethodName} {bytes : ByteArray} {mL n index : Nat} {rt : Option FieldType} {ws : List Cond} {rm : Room} {As : List Value} {w : Int32 × (Nat → Nat → Int32)} (hx : p.tables.exec = Jvm.exec) (hb : c.code = cc) (hml : c.maxLocals = nL) (hown : s.vm.findClass own = some m.cls) (hts : ∀ w ∈ c0 :: W0, w.before args s = true) (hK : brK D cI cR s) (hB : brH D cI cR ad ρ sp kp τ H) (hI : brI ad) (hS : va_S (brA ad) H0 H locs)
    (hM : Met l y ws rm (va_Pc (.ref (ad 210) :: As) (txM D cI (ad 210) (tr ad) τ)) (txQ D cI (ad 210) (tr ad) w) 0 0 (txA (ad 210) (tr ad))) (cw : CallW R s args own RX1 index y bytes mL rt ws rm 0 0 n)
    (hn : As.length = n) (hsize : ls.size = nL) (hst : st0 = As.reverse ++ .ref (ad 210) :: rest) (hW : (rest.map fun v => v.category).sum ≤ 8) (d : decode cc pc = .ok (.invokevirtual index, 3)) (hc : cells ≤ R.cells) (hs : slots ≤ R.slots)
    (kk : ∀ (H1 : Heap) (locs1 : List Loc), brH D cI cR ad ρ sp kp w.2 H1 → va_S (brA ad) H0 H1 locs1 → W p l e R s m args below meth c H1 locs1 cells slots Q (F0 m (pc + 3) ls (.int w.1 :: rest))) : W p l e R s m args below meth c H locs cells slots Q (F0 m pc ls st0) := by
  refine br_step (va_runV (As := As) (rest := rest) ⟨hx, hb, hml, hown, hts⟩ hM cw ⟨tx_blindM, va_recv (ci := 1) (q0 := 0) (brK_1 hK) hB.2.2.1 rfl rfl, fun U hU hW => ⟨rfl, ⟨by rw [hU]; exact hB.2.2.1, va_K.moved hW.alike (brK_1 hK)⟩, tx_D hI⟩⟩ (g := F0 m pc ls st0) rfl hn hsize hst (lv_room hW) d ⟨hc, hs⟩) hS (fun q h => tx_in h) (fun v t st₀ H1 locs1 h0 ht hq mk => ?_)
  obtain ⟨hv, hp, hF⟩ := hq
  cases hv
  refine ⟨br_F hF (fun q h => tx_in h), fun hS1 => kk H1 locs1 (br_updT hB hI (by rw [← ht]; exact hp.1) (fun q h1 h2 => by rw [← ht, hF.2 q (by rw [h0]; exact h1) h2, h0])) hS1⟩
theorem br_callTV {y : MethodName} {bytes : ByteArray} {mL n index : Nat} {rt : Option FieldType} {ws : List Cond} {rm : Room} {As : List Value} {w : Nat → Nat → Int32} (hx : p.tables.exec = Jvm.exec) (hb : c.code = cc) (hml : c.maxLocals = nL) (hown : s.vm.findClass own = some m.cls) (hts : ∀ w ∈ c0 :: W0, w.before args s = true) (hK : brK D cI cR s) (hB : brH D cI cR ad ρ sp kp τ H) (hI : brI ad) (hS : va_S (brA ad) H0 H locs)
    (hM : Met l y ws rm (va_Pc (.ref (ad 210) :: As) (txM D cI (ad 210) (tr ad) τ)) (txV D cI (ad 210) (tr ad) w) 0 0 (txA (ad 210) (tr ad))) (cw : CallW R s args own RX1 index y bytes mL rt ws rm 0 0 n)
    (hn : As.length = n) (hsize : ls.size = nL) (hst : st0 = As.reverse ++ .ref (ad 210) :: rest) (hW : (rest.map fun v => v.category).sum ≤ 8) (d : decode cc pc = .ok (.invokevirtual index, 3)) (hc : cells ≤ R.cells) (hs : slots ≤ R.slots)
    (kk : ∀ (H1 : Heap) (locs1 : List Loc), brH D cI cR ad ρ sp kp w H1 → va_S (brA ad) H0 H1 locs1 → W p l e R s m args below meth c H1 locs1 cells slots Q (F0 m (pc + 3) ls rest)) : W p l e R s m args below meth c H locs cells slots Q (F0 m pc ls st0) := by
  refine br_step (va_runV (As := As) (rest := rest) ⟨hx, hb, hml, hown, hts⟩ hM cw ⟨tx_blindM, va_recv (ci := 1) (q0 := 0) (brK_1 hK) hB.2.2.1 rfl rfl, fun U hU hW => ⟨rfl, ⟨by rw [hU]; exact hB.2.2.1, va_K.moved hW.alike (brK_1 hK)⟩, tx_D hI⟩⟩ (g := F0 m pc ls st0) rfl hn hsize hst (lv_room hW) d ⟨hc, hs⟩) hS (fun q h => tx_in h) (fun v t st₀ H1 locs1 h0 ht hq mk => ?_)
  obtain ⟨hv, hp, hF⟩ := hq
  cases hv
  refine ⟨br_F hF (fun q h => tx_in h), fun hS1 => kk H1 locs1 (br_updT hB hI (by rw [← ht]; exact hp.1) (fun q h1 h2 => by rw [← ht, hF.2 q (by rw [h0]; exact h1) h2, h0])) hS1⟩
/-- becomeLike of two of the shops -/
theorem br_callB {index : Nat} (hx : p.tables.exec = Jvm.exec) (hb : c.code = cc) (hml : c.maxLocals = nL) (hown : s.vm.findClass own = some m.cls) (hts : ∀ w ∈ c0 :: W0, w.before args s = true) (hK : brK D cI cR s) (hB : brH D cI cR ad ρ sp kp τ H) (hI : brI ad) (hS : va_S (brA ad) H0 H locs) (i j : Nat) (hi : i < 7) (hj : j < 7) (hij : i ≠ j) (hl : Cond.methodLink own index yX2_becomeLike ∈ W0) (hR : rm_X2_becomeLike.frames + 1 ≤ R.frames ∧ 8 + (2 + 11) + rm_X2_becomeLike.locals ≤ R.locals)
    (hsize : ls.size = nL) (hW : (rest.map fun v => v.category).sum ≤ 8) (d : decode cc pc = .ok (.invokevirtual index, 3)) (hc : cells ≤ R.cells) (hs : slots ≤ R.slots)
    (kk : ∀ (H1 : Heap) (locs1 : List Loc), brH D cI cR ad (va_up ρ i (cpS (ρ j) (ρ i))) sp kp τ H1 → va_S (brA ad) H0 H1 locs1 → W p l e R s m args below meth c H1 locs1 cells slots Q (F0 m (pc + 3) ls rest)) : W p l e R s m args below meth c H locs cells slots Q (F0 m pc ls (.ref (so ad j) :: .ref (so ad i) :: rest)) := by
  have fr : ∀ q, twF (so ad i) (sr ad i) (so ad j) (sr ad j) q → brA ad q := fun q h => h.elim (fun z => br_sh hi z) (fun z => br_sh hj z)
  refine br_step (va_runV (As := [.ref (so ad j)]) (rest := rest) ⟨hx, hb, hml, hown, hts⟩ (c_X2_becomeLike l D cI (so ad i) (sr ad i) (ρ i) (so ad j) (sr ad j) (ρ j)) (kV_X2_becomeLike hts hl hR) ⟨tw_blind, va_recv (ci := 2) (q0 := 0) (brK_1 hK) (hB.1 i hi) rfl rfl, fun U hU hW => ⟨rfl, ⟨by rw [hU]; exact hB.1 i hi, by rw [hU]; exact hB.1 j hj⟩, va_K.moved hW.alike (brK_1 hK), br_D hI hi, br_D hI hj, br_apart hI hi hj hij⟩⟩ (g := F0 m pc ls (.ref (so ad j) :: .ref (so ad i) :: rest)) rfl rfl hsize rfl (lv_room hW) d ⟨hc, hs⟩) hS fr (fun v t st₀ H1 locs1 h0 ht hq mk => ?_)
  obtain ⟨hv, hp, hF⟩ := hq
  cases hv
  refine ⟨br_F hF (fun q h => br_sh hi h), fun hS1 => kk H1 locs1 (br_updS hB hI hi (by rw [← ht]; exact hp) (fun q h1 h2 => by rw [← ht, hF.2 q (by rw [h0]; exact h1) h2, h0])) hS1⟩
/-- a call of a method whose contract speaks of the composite world -/
theorem br_callQ {C : String} {y : MethodName} {bytes : ByteArray} {mL n index b : Nat} {rt : Option FieldType} {ws : List Cond} {rm : Room} {As : List Value} {w : Int32} {ρ' : Nat → Nat → Nat → Int32} {sp' kp' : Nat} {τ' : Nat → Nat → Int32} (hx : p.tables.exec = Jvm.exec) (hb : c.code = cc) (hml : c.maxLocals = nL) (hown : s.vm.findClass own = some m.cls) (hts : ∀ w ∈ c0 :: W0, w.before args s = true) (hK : brK D cI cR s) (hB : brH D cI cR ad ρ sp kp τ H) (hI : brI ad) (hS : va_S (brA ad) H0 H locs)
    (hrec : ∃ cell : Cell, H[b]? = some cell ∧ cell.vm.isStatics = false ∧ s.vm.findClass C = some cell.cls)
    (hM : Met l y ws rm (va_Pc (.ref b :: As) (brP D cI cR ad ρ sp kp τ)) (brQ D cI cR ad w ρ' sp' kp' τ') 0 0 (brA ad)) (cw : CallW R s args own C index y bytes mL rt ws rm 0 0 n)
    (hn : As.length = n) (hsize : ls.size = nL) (hst : st0 = As.reverse ++ .ref b :: rest) (hW : (rest.map fun v => v.category).sum ≤ 8) (d : decode cc pc = .ok (.invokevirtual index, 3)) (hc : cells ≤ R.cells) (hs : slots ≤ R.slots)
    (kk : ∀ (H1 : Heap) (locs1 : List Loc), brH D cI cR ad ρ' sp' kp' τ' H1 → va_S (brA ad) H0 H1 locs1 → W p l e R s m args below meth c H1 locs1 cells slots Q (F0 m (pc + 3) ls (.int w :: rest))) : W p l e R s m args below meth c H locs cells slots Q (F0 m pc ls st0) := by
  refine br_step (va_runV (As := As) (rest := rest) ⟨hx, hb, hml, hown, hts⟩ hM cw ⟨br_blind, hrec, fun U hU hW => ⟨rfl, by rw [hU]; exact hB, va_K.moved hW.alike hK, hI⟩⟩ (g := F0 m pc ls st0) rfl hn hsize hst (lv_room hW) d ⟨hc, hs⟩) hS (fun q h => h) (fun v t st₀ H1 locs1 h0 ht hq mk => ?_)
  obtain ⟨hv, hp, hF⟩ := hq
  cases hv
  exact ⟨hF, fun hS1 => kk H1 locs1 (by rw [← ht]; exact hp) hS1⟩
theorem br_callV {C : String} {y : MethodName} {bytes : ByteArray} {mL n index b : Nat} {rt : Option FieldType} {ws : List Cond} {rm : Room} {As : List Value} {ρ' : Nat → Nat → Nat → Int32} {sp' kp' : Nat} {τ' : Nat → Nat → Int32} (hx : p.tables.exec = Jvm.exec) (hb : c.code = cc) (hml : c.maxLocals = nL) (hown : s.vm.findClass own = some m.cls) (hts : ∀ w ∈ c0 :: W0, w.before args s = true) (hK : brK D cI cR s) (hB : brH D cI cR ad ρ sp kp τ H) (hI : brI ad) (hS : va_S (brA ad) H0 H locs)
    (hrec : ∃ cell : Cell, H[b]? = some cell ∧ cell.vm.isStatics = false ∧ s.vm.findClass C = some cell.cls)
    (hM : Met l y ws rm (va_Pc (.ref b :: As) (brP D cI cR ad ρ sp kp τ)) (brV D cI cR ad ρ' sp' kp' τ') 0 0 (brA ad)) (cw : CallW R s args own C index y bytes mL rt ws rm 0 0 n)
    (hn : As.length = n) (hsize : ls.size = nL) (hst : st0 = As.reverse ++ .ref b :: rest) (hW : (rest.map fun v => v.category).sum ≤ 8) (d : decode cc pc = .ok (.invokevirtual index, 3)) (hc : cells ≤ R.cells) (hs : slots ≤ R.slots)
    (kk : ∀ (H1 : Heap) (locs1 : List Loc), brH D cI cR ad ρ' sp' kp' τ' H1 → va_S (brA ad) H0 H1 locs1 → W p l e R s m args below meth c H1 locs1 cells slots Q (F0 m (pc + 3) ls rest)) : W p l e R s m args below meth c H locs cells slots Q (F0 m pc ls st0) := by
  refine br_step (va_runV (As := As) (rest := rest) ⟨hx, hb, hml, hown, hts⟩ hM cw ⟨br_blind, hrec, fun U hU hW => ⟨rfl, by rw [hU]; exact hB, va_K.moved hW.alike hK, hI⟩⟩ (g := F0 m pc ls st0) rfl hn hsize hst (lv_room hW) d ⟨hc, hs⟩) hS (fun q h => h) (fun v t st₀ H1 locs1 h0 ht hq mk => ?_)
  obtain ⟨hv, hp, hF⟩ := hq
  cases hv
  exact ⟨hF, fun hS1 => kk H1 locs1 (by rw [← ht]; exact hp) hS1⟩
theorem hi_g0 (hx : p.tables.exec = Jvm.exec) (hb : c.code = cc) (hts : ∀ w ∈ c0 :: W0, w.before args s = true) (hown : s.vm.findClass RX0 = some m.cls) (hK : brK D cI cR s) (hB : brH D cI cR ad ρ sp kp τ H) (d : decode cc pc = .ok (.getfield 13, 3)) (kk : W p l e R s m args below meth c H locs cells slots Q (F0 m (pc + 3) ls (.ref (ad 201) :: rest))) : W p l e R s m args below meth c H locs cells slots Q (F0 m pc ls (.ref (ad 200) :: rest)) :=
  va_get (ci := 0) (C := RX0) (T := TX0) (N := 3) (v := .ref (ad 201)) hx hb hts (fun w h => List.mem_cons_of_mem _ (inX0 w h)) hown hK hB.2.1 0 rfl rfl 0 (by decide) (hts _ (List.mem_cons_of_mem _ mf_X0_13)) (fun _ h => h) rfl d kk
theorem hi_g1 (hx : p.tables.exec = Jvm.exec) (hb : c.code = cc) (hts : ∀ w ∈ c0 :: W0, w.before args s = true) (hown : s.vm.findClass RX0 = some m.cls) (hK : brK D cI cR s) (hB : brH D cI cR ad ρ sp kp τ H) (d : decode cc pc = .ok (.getfield 17, 3)) (kk : W p l e R s m args below meth c H locs cells slots Q (F0 m (pc + 3) ls (.int (nI sp) :: rest))) : W p l e R s m args below meth c H locs cells slots Q (F0 m pc ls (.ref (ad 200) :: rest)) :=
  va_get (ci := 0) (C := RX0) (T := TX0) (N := 3) (v := .int (nI sp)) hx hb hts (fun w h => List.mem_cons_of_mem _ (inX0 w h)) hown hK hB.2.1 0 rfl rfl 1 (by decide) (hts _ (List.mem_cons_of_mem _ mf_X0_17)) (fun _ h => h) rfl d kk
theorem hi_g2 (hx : p.tables.exec = Jvm.exec) (hb : c.code = cc) (hts : ∀ w ∈ c0 :: W0, w.before args s = true) (hown : s.vm.findClass RX0 = some m.cls) (hK : brK D cI cR s) (hB : brH D cI cR ad ρ sp kp τ H) (d : decode cc pc = .ok (.getfield 21, 3)) (kk : W p l e R s m args below meth c H locs cells slots Q (F0 m (pc + 3) ls (.int (nI kp) :: rest))) : W p l e R s m args below meth c H locs cells slots Q (F0 m pc ls (.ref (ad 200) :: rest)) :=
  va_get (ci := 0) (C := RX0) (T := TX0) (N := 3) (v := .int (nI kp)) hx hb hts (fun w h => List.mem_cons_of_mem _ (inX0 w h)) hown hK hB.2.1 0 rfl rfl 2 (by decide) (hts _ (List.mem_cons_of_mem _ mf_X0_21)) (fun _ h => h) rfl d kk
theorem hi_p1 (hx : p.tables.exec = Jvm.exec) (hb : c.code = cc) (hts : ∀ w ∈ c0 :: W0, w.before args s = true) (hown : s.vm.findClass RX0 = some m.cls) (hK : brK D cI cR s) (hB : brH D cI cR ad ρ sp kp τ H) (hI : brI ad) (hS : va_S (brA ad) H0 H locs) (sp2 : Nat) {x : Int32} (hxv : x = nI sp2) (d : decode cc pc = .ok (.putfield 17, 3)) (kk : ∀ (H1 : Heap) (locs1 : List Loc), brH D cI cR ad ρ sp2 kp τ H1 → va_S (brA ad) H0 H1 locs1 → W p l e R s m args below meth c H1 locs1 cells slots Q (F0 m (pc + 3) ls rest)) : W p l e R s m args below meth c H locs cells slots Q (F0 m pc ls (.int x :: .ref (ad 200) :: rest)) := by
  subst hxv
  exact va_putX (ci := 0) (C := RX0) (T := TX0) (N := 3) (v := .int (nI sp2)) (ty := .int) hx hb hts (fun w h => List.mem_cons_of_mem _ (inX0 w h)) tyX0 tyX0_ok nmX0 hown hK hB.2.1 (hi_D hI) hS 0 rfl rfl 1 (by decide) (hts _ (List.mem_cons_of_mem _ mf_X0_17)) (fun _ h => h) rfl (by decide +kernel) rfl rfl (Nat.le_of_ble_eq_true rfl) d (fun H1 locs1 hz ho h1 h3 => kk H1 locs1 (br_updH hB hI h1 ho) h3)
theorem hi_p2 (hx : p.tables.exec = Jvm.exec) (hb : c.code = cc) (hts : ∀ w ∈ c0 :: W0, w.before args s = true) (hown : s.vm.findClass RX0 = some m.cls) (hK : brK D cI cR s) (hB : brH D cI cR ad ρ sp kp τ H) (hI : brI ad) (hS : va_S (brA ad) H0 H locs) (kp2 : Nat) {x : Int32} (hxv : x = nI kp2) (d : decode cc pc = .ok (.putfield 21, 3)) (kk : ∀ (H1 : Heap) (locs1 : List Loc), brH D cI cR ad ρ sp kp2 τ H1 → va_S (brA ad) H0 H1 locs1 → W p l e R s m args below meth c H1 locs1 cells slots Q (F0 m (pc + 3) ls rest)) : W p l e R s m args below meth c H locs cells slots Q (F0 m pc ls (.int x :: .ref (ad 200) :: rest)) := by
  subst hxv
  exact va_putX (ci := 0) (C := RX0) (T := TX0) (N := 3) (v := .int (nI kp2)) (ty := .int) hx hb hts (fun w h => List.mem_cons_of_mem _ (inX0 w h)) tyX0 tyX0_ok nmX0 hown hK hB.2.1 (hi_D hI) hS 0 rfl rfl 2 (by decide) (hts _ (List.mem_cons_of_mem _ mf_X0_21)) (fun _ h => h) rfl (by decide +kernel) rfl rfl (Nat.le_of_ble_eq_true rfl) d (fun H1 locs1 hz ho h1 h3 => kk H1 locs1 (br_updH hB hI h1 ho) h3)
theorem hi_r (hx : p.tables.exec = Jvm.exec) (hb : c.code = cc) (hK : brK D cI cR s) (hB : brH D cI cR ad ρ sp kp τ H) (j : Nat) (hj : j < 6) {i : Int32} (hi : i = nI j) (d : decode cc pc = .ok (.aaload, 1)) (kk : W p l e R s m args below meth c H locs cells slots Q (F0 m (pc + 1) ls (.ref (so ad (j + 1)) :: rest))) : W p l e R s m args below meth c H locs cells slots Q (F0 m pc ls (.int i :: .ref (ad 201) :: rest)) := by
  subst hi
  exact va_aldq (n := 6) (f := fun i => some (so ad (i + 1))) hx hb hK hB.2.1 1 1 rfl rfl (vp_in_nI hj (by decide)) d (by rw [nI_clamp (Nat.lt_trans hj (by decide))]; exact kk)
theorem hi_recv (hK : brK D cI cR s) (hB : brH D cI cR ad ρ sp kp τ H) : ∃ cell : Cell, H[ad 200]? = some cell ∧ cell.vm.isStatics = false ∧ s.vm.findClass RX0 = some cell.cls := va_recv (ci := 0) (q0 := 0) hK hB.2.1 rfl rfl
theorem br_recv (hK : brK D cI cR s) (hB : brH D cI cR ad ρ sp kp τ H) : ∃ cell : Cell, H[ad 300]? = some cell ∧ cell.vm.isStatics = false ∧ s.vm.findClass RX3 = some cell.cls := va_recv (ci := 3) (q0 := 0) hK hB.2.2.2 rfl rfl
theorem br_g0 (hx : p.tables.exec = Jvm.exec) (hb : c.code = cc) (hts : ∀ w ∈ c0 :: W0, w.before args s = true) (hown : s.vm.findClass RX3 = some m.cls) (hK : brK D cI cR s) (hB : brH D cI cR ad ρ sp kp τ H) (d : decode cc pc = .ok (.getfield 10, 3)) (kk : W p l e R s m args below meth c H locs cells slots Q (F0 m (pc + 3) ls (.ref (so ad 0) :: rest))) : W p l e R s m args below meth c H locs cells slots Q (F0 m pc ls (.ref (ad 300) :: rest)) :=
  va_get (ci := 3) (C := RX3) (T := TX3) (N := 3) (v := .ref (so ad 0)) hx hb hts (fun w h => List.mem_cons_of_mem _ (inX3 w h)) hown hK hB.2.2.2 0 rfl rfl 0 (by decide) (hts _ (List.mem_cons_of_mem _ mf_X3_10)) (fun _ h => h) rfl d kk
theorem br_g1 (hx : p.tables.exec = Jvm.exec) (hb : c.code = cc) (hts : ∀ w ∈ c0 :: W0, w.before args s = true) (hown : s.vm.findClass RX3 = some m.cls) (hK : brK D cI cR s) (hB : brH D cI cR ad ρ sp kp τ H) (d : decode cc pc = .ok (.getfield 19, 3)) (kk : W p l e R s m args below meth c H locs cells slots Q (F0 m (pc + 3) ls (.ref (ad 200) :: rest))) : W p l e R s m args below meth c H locs cells slots Q (F0 m pc ls (.ref (ad 300) :: rest)) :=
  va_get (ci := 3) (C := RX3) (T := TX3) (N := 3) (v := .ref (ad 200)) hx hb hts (fun w h => List.mem_cons_of_mem _ (inX3 w h)) hown hK hB.2.2.2 0 rfl rfl 1 (by decide) (hts _ (List.mem_cons_of_mem _ mf_X3_19)) (fun _ h => h) rfl d kk
theorem br_g2 (hx : p.tables.exec = Jvm.exec) (hb : c.code = cc) (hts : ∀ w ∈ c0 :: W0, w.before args s = true) (hown : s.vm.findClass RX3 = some m.cls) (hK : brK D cI cR s) (hB : brH D cI cR ad ρ sp kp τ H) (d : decode cc pc = .ok (.getfield 26, 3)) (kk : W p l e R s m args below meth c H locs cells slots Q (F0 m (pc + 3) ls (.ref (ad 210) :: rest))) : W p l e R s m args below meth c H locs cells slots Q (F0 m pc ls (.ref (ad 300) :: rest)) :=
  va_get (ci := 3) (C := RX3) (T := TX3) (N := 3) (v := .ref (ad 210)) hx hb hts (fun w h => List.mem_cons_of_mem _ (inX3 w h)) hown hK hB.2.2.2 0 rfl rfl 2 (by decide) (hts _ (List.mem_cons_of_mem _ mf_X3_26)) (fun _ h => h) rfl d kk
theorem br_fin {w v : Int32} {ρ' : Nat → Nat → Nat → Int32} {sp' kp' : Nat} {τ' : Nat → Nat → Int32} (hx : p.tables.exec = Jvm.exec) (hb : c.code = cc) (hr : meth.sig.returnType = some .int) (hlk : meth.locks = false) (hB : brH D cI cR ad ρ sp kp τ H) (hS : va_S (brA ad) s.heap H locs) (h : v = w) (h1 : ρ = ρ') (h2 : sp = sp') (h3 : kp = kp') (h4 : τ = τ') (d : decode cc pc = .ok (.ireturn, 1)) :
    W p l e R s m args below meth c H locs 0 0 (MQ below (brQ D cI cR ad w ρ' sp' kp' τ') args s 0 0 (brA ad)) (F0 m pc ls [.int v]) := by
  subst h; subst h1; subst h2; subst h3; subst h4
  exact W.iret hx hb hr (fun t ht hW => ⟨rfl, by rw [ht]; exact hB, hS.F ht⟩) hS.2.2 d hlk
end BR
/-! ===== the history's methods ===== -/
abbrev rm_X0_prepare : Room := { frames := 3, cells := 0, slots := 0, locals := 142 }
set_option maxRecDepth 100000 in
theorem c_X0_prepare (l : Launch) (D : va_G) (cI cR : ClassId) (ad : Nat → Nat) (ρ : Nat → Nat → Nat → Int32) (sp kp : Nat) (τ : Nat → Nat → Int32) (hsp : sp < 6) :
    Met l yX0_prepare (Cond.code yX0_prepare cX0_prepare 2 (none) :: W0) rm_X0_prepare (va_Pc [.ref (ad 200), .ref (so ad 0)] (brP D cI cR ad ρ sp kp τ)) (brV D cI cR ad (va_up ρ (sp + 1) (cpS (ρ 0) (ρ (sp + 1)))) sp kp τ) 0 0 (brA ad) := by
  refine st_gen (cc := cX0_prepare) (maxL := 2) (ret := none) (own := RX0) (by decide) rfl (Nat.le_of_ble_eq_true rfl) ?_
  intro p e s m below meth c ls C hPre hl
  obtain ⟨hx, hb, hr, hml, hown, hts, hlk⟩ := C
  obtain ⟨hB, hK, hI⟩ := hPre
  have hl : lv_has ls 2 [(0, .ref (ad 200)), (1, .ref (so ad 0))] := hl
  have hS : va_S (brA ad) s.heap s.heap [] := va_S.rf
  refine lv_aload_n hx hb dX0_prepare_0 rfl (lv_at hl 0 rfl) ?_
  refine hi_g0 hx hb hts hown hK hB dX0_prepare_1 ?_
  refine lv_aload_n hx hb dX0_prepare_4 rfl (lv_at hl 0 rfl) ?_
  refine hi_g1 hx hb hts hown hK hB dX0_prepare_5 ?_
  refine hi_r hx hb hK hB sp hsp rfl dX0_prepare_8 ?_
  refine lv_aload_n hx hb dX0_prepare_9 rfl (lv_at hl 1 rfl) ?_
  refine br_callB hx hb hml hown hts hK hB hI hS (sp + 1) 0 (by omega) (by omega) (by omega) ml_X0_25 ⟨Nat.le_of_ble_eq_true rfl, Nat.le_of_ble_eq_true rfl⟩ hl.1 (Nat.le_of_ble_eq_true rfl) dX0_prepare_10 (Nat.zero_le _) (Nat.zero_le _) (fun H locs hB hS => ?_)
  exact W.vret hx hb hr (fun t ht hW => ⟨rfl, by rw [ht]; exact hB, hS.F ht⟩) hS.2.2 dX0_prepare_13 hlk
abbrev rm_X0_settle : Room := { frames := 1, cells := 0, slots := 0, locals := 40 }
def st_sp (r : Int32) (sp : Nat) : Nat := if r < 0 then sp else (sp + 1) % 6
def st_kp (r : Int32) (kp : Nat) : Nat := if r < 0 then kp else (if 5 < kp + 1 then 5 else kp + 1)
set_option maxRecDepth 100000 in
theorem c_X0_settle (l : Launch) (D : va_G) (cI cR : ClassId) (ad : Nat → Nat) (ρ : Nat → Nat → Nat → Int32) (sp kp : Nat) (τ : Nat → Nat → Int32) (r : Int32) (hsp : sp < 6) (hkp : kp ≤ 5) :
    Met l yX0_settle (Cond.code yX0_settle cX0_settle 2 (some .int) :: W0) rm_X0_settle (va_Pc [.ref (ad 200), .int r] (brP D cI cR ad ρ sp kp τ)) (brQ D cI cR ad r ρ (st_sp r sp) (st_kp r kp) τ) 0 0 (brA ad) := by
  refine st_gen (cc := cX0_settle) (maxL := 2) (ret := some .int) (own := RX0) (by decide) rfl (Nat.le_of_ble_eq_true rfl) ?_
  intro p e s m below meth c ls C hPre hl
  obtain ⟨hx, hb, hr, hml, hown, hts, hlk⟩ := C
  obtain ⟨hB, hK, hI⟩ := hPre
  have hl : lv_has ls 2 [(0, .ref (ad 200)), (1, .int r)] := hl
  have hS : va_S (brA ad) s.heap s.heap [] := va_S.rf
  refine lv_iload_n hx hb dX0_settle_0 rfl (lv_at hl 1 rfl) ?_
  refine lv_if_lt (tgt := 31) hx hb dX0_settle_1 (by decide) (fun c1 => ?_) (fun c1 => ?_)
  · refine lv_iload_n hx hb dX0_settle_31 rfl (lv_at hl 1 rfl) ?_
    exact br_fin hx hb hr hlk hB hS rfl rfl (br_p c1 rfl) (br_p c1 rfl) rfl dX0_settle_32
  refine lv_aload_n hx hb dX0_settle_4 rfl (lv_at hl 0 rfl) ?_
  refine lv_aload_n hx hb dX0_settle_5 rfl (lv_at hl 0 rfl) ?_
  refine hi_g1 hx hb hts hown hK hB dX0_settle_6 ?_
  refine lv_iconst (v := 1) hx hb dX0_settle_9 (by decide) ?_
  refine lv_iaddN (x := sp) (y := 1) hx hb rfl rfl dX0_settle_10 ?_
  refine lv_bipush (v := nI 6) hx hb dX0_settle_11 (by decide) ?_
  refine lv_irem hx hb dX0_settle_13 (by decide) ?_
  refine hi_p1 hx hb hts hown hK hB hI hS ((sp + 1) % 6) (pk_rem (by omega) (by decide) (by decide)) dX0_settle_14 (fun H locs hB hS => ?_)
  refine lv_aload_n hx hb dX0_settle_17 rfl (lv_at hl 0 rfl) ?_
  refine lv_aload_n hx hb dX0_settle_18 rfl (lv_at hl 0 rfl) ?_
  refine hi_g2 hx hb hts hown hK hB dX0_settle_19 ?_
  refine lv_iconst (v := 1) hx hb dX0_settle_22 (by decide) ?_
  refine lv_iaddN (x := kp) (y := 1) hx hb rfl rfl dX0_settle_23 ?_
  refine lv_iconst (v := nI 5) hx hb dX0_settle_24 (by decide) ?_
  refine r_min hx hb hml hown hts hl.1 ml_X0_29 (Nat.le_of_ble_eq_true rfl) (Nat.le_of_ble_eq_true rfl) (Nat.zero_le _) (Nat.zero_le _) (rest := [.ref (ad 200)]) dX0_settle_25 ?_
  refine hi_p2 hx hb hts hown hK hB hI hS (if 5 < kp + 1 then 5 else kp + 1) (by
    by_cases h : 5 < kp + 1
    · rw [if_pos h, if_pos (nI_lt h (by omega))]
    · rw [if_neg h, if_neg (nI_nlt (by omega) (by omega))]) dX0_settle_28 (fun H locs hB hS => ?_)
  refine lv_iload_n hx hb dX0_settle_31 rfl (lv_at hl 1 rfl) ?_
  exact br_fin hx hb hr hlk hB hS rfl rfl (br_n c1 rfl) (br_n c1 rfl) rfl dX0_settle_32
abbrev rm_X0_restore : Room := { frames := 3, cells := 0, slots := 0, locals := 142 }
def rs_v (kp : Nat) : Int32 := if kp = 0 then (-4) else nI (kp - 1)
def rs_sp (sp kp : Nat) : Nat := if kp = 0 then sp else (sp + 6 - 1) % 6
def rs_ρ (ρ : Nat → Nat → Nat → Int32) (sp kp : Nat) : Nat → Nat → Nat → Int32 := if kp = 0 then ρ else va_up ρ 0 (cpS (ρ ((sp + 6 - 1) % 6 + 1)) (ρ 0))
set_option maxRecDepth 100000 in
theorem c_X0_restore (l : Launch) (D : va_G) (cI cR : ClassId) (ad : Nat → Nat) (ρ : Nat → Nat → Nat → Int32) (sp kp : Nat) (τ : Nat → Nat → Int32) (hsp : sp < 6) (hkp : kp ≤ 5) :
    Met l yX0_restore (Cond.code yX0_restore cX0_restore 2 (some .int) :: W0) rm_X0_restore (va_Pc [.ref (ad 200), .ref (so ad 0)] (brP D cI cR ad ρ sp kp τ)) (brQ D cI cR ad (rs_v kp) (rs_ρ ρ sp kp) (rs_sp sp kp) (kp - 1) τ) 0 0 (brA ad) := by
  refine st_gen (cc := cX0_restore) (maxL := 2) (ret := some .int) (own := RX0) (by decide) rfl (Nat.le_of_ble_eq_true rfl) ?_
  intro p e s m below meth c ls C hPre hl
  obtain ⟨hx, hb, hr, hml, hown, hts, hlk⟩ := C
  obtain ⟨hB, hK, hI⟩ := hPre
  have hl : lv_has ls 2 [(0, .ref (ad 200)), (1, .ref (so ad 0))] := hl
  have hS : va_S (brA ad) s.heap s.heap [] := va_S.rf
  refine lv_aload_n hx hb dX0_restore_0 rfl (lv_at hl 0 rfl) ?_
  refine hi_g2 hx hb hts hown hK hB dX0_restore_1 ?_
  refine lv_if_neN kp hx hb rfl (by omega) (tgt := 10) dX0_restore_4 (by decide) (fun c1 => ?_) (fun c1 => ?_)
  · refine lv_aload_n hx hb dX0_restore_10 rfl (lv_at hl 0 rfl) ?_
    refine lv_aload_n hx hb dX0_restore_11 rfl (lv_at hl 0 rfl) ?_
    refine hi_g1 hx hb hts hown hK hB dX0_restore_12 ?_
    refine lv_bipush (v := 6) hx hb dX0_restore_15 (by decide) ?_
    refine lv_iaddN (x := sp) (y := 6) hx hb rfl rfl dX0_restore_17 ?_
    refine lv_iconst (v := 1) hx hb dX0_restore_18 (by decide) ?_
    refine lv_isubN (x := sp + 6) (y := 1) hx hb rfl rfl (by omega) dX0_restore_19 ?_
    refine lv_bipush (v := nI 6) hx hb dX0_restore_20 (by decide) ?_
    refine lv_irem hx hb dX0_restore_22 (by decide) ?_
    refine hi_p1 hx hb hts hown hK hB hI hS ((sp + 6 - 1) % 6) (pk_rem (by omega) (by decide) (by decide)) dX0_restore_23 (fun H locs hB hS => ?_)
    refine lv_aload_n hx hb dX0_restore_26 rfl (lv_at hl 0 rfl) ?_
    refine lv_dup hx hb dX0_restore_27 rfl ?_
    refine hi_g2 hx hb hts hown hK hB dX0_restore_28 ?_
    refine lv_iconst (v := 1) hx hb dX0_restore_31 (by decide) ?_
    refine lv_isubN (x := kp) (y := 1) hx hb rfl rfl (by omega) dX0_restore_32 ?_
    refine hi_p2 hx hb hts hown hK hB hI hS (kp - 1) rfl dX0_restore_33 (fun H locs hB hS => ?_)
    refine lv_aload_n hx hb dX0_restore_36 rfl (lv_at hl 1 rfl) ?_
    refine lv_aload_n hx hb dX0_restore_37 rfl (lv_at hl 0 rfl) ?_
    refine hi_g0 hx hb hts hown hK hB dX0_restore_38 ?_
    refine lv_aload_n hx hb dX0_restore_41 rfl (lv_at hl 0 rfl) ?_
    refine hi_g1 hx hb hts hown hK hB dX0_restore_42 ?_
    refine hi_r hx hb hK hB ((sp + 6 - 1) % 6) (Nat.mod_lt _ (by decide)) rfl dX0_restore_45 ?_
    refine br_callB hx hb hml hown hts hK hB hI hS 0 ((sp + 6 - 1) % 6 + 1) (by omega) (by omega) (by omega) ml_X0_25 ⟨Nat.le_of_ble_eq_true rfl, Nat.le_of_ble_eq_true rfl⟩ hl.1 (Nat.le_of_ble_eq_true rfl) dX0_restore_46 (Nat.zero_le _) (Nat.zero_le _) (fun H locs hB hS => ?_)
    refine lv_aload_n hx hb dX0_restore_49 rfl (lv_at hl 0 rfl) ?_
    refine hi_g2 hx hb hts hown hK hB dX0_restore_50 ?_
    exact br_fin hx hb hr hlk hB hS (br_n c1 rfl) (br_n c1 rfl) (br_n c1 rfl) rfl rfl dX0_restore_53
  refine lv_bipush (v := (-4)) hx hb dX0_restore_7 (by decide) ?_
  exact br_fin hx hb hr hlk hB hS (br_p c1 rfl) (br_p c1 rfl) (br_p c1 rfl) (by omega) rfl dX0_restore_9
theorem kV_X0_prepare {R : Room} {s : State} {args : Array Value} {own : String} {idx : Nat} {c0 : Cond} (hts : ∀ w ∈ c0 :: W0, w.before args s = true) (hl : Cond.methodLink own idx yX0_prepare ∈ W0) (hR : rm_X0_prepare.frames + 1 ≤ R.frames ∧ 8 + (2 + 11) + rm_X0_prepare.locals ≤ R.locals) : CallW R s args own RX0 idx yX0_prepare cX0_prepare 2 (none) (Cond.code yX0_prepare cX0_prepare 2 (none) :: W0) rm_X0_prepare 0 0 1 := cwV 1 hts (gdV hl mi_yX0_prepare ms_yX0_prepare mini_X0 mc_yX0_prepare) rfl rfl rfl (by decide +kernel) hR
theorem kV_X0_settle {R : Room} {s : State} {args : Array Value} {own : String} {idx : Nat} {c0 : Cond} (hts : ∀ w ∈ c0 :: W0, w.before args s = true) (hl : Cond.methodLink own idx yX0_settle ∈ W0) (hR : rm_X0_settle.frames + 1 ≤ R.frames ∧ 8 + (2 + 11) + rm_X0_settle.locals ≤ R.locals) : CallW R s args own RX0 idx yX0_settle cX0_settle 2 (some .int) (Cond.code yX0_settle cX0_settle 2 (some .int) :: W0) rm_X0_settle 0 0 1 := cwV 1 hts (gdV hl mi_yX0_settle ms_yX0_settle mini_X0 mc_yX0_settle) rfl rfl rfl (by decide +kernel) hR
theorem kV_X0_restore {R : Room} {s : State} {args : Array Value} {own : String} {idx : Nat} {c0 : Cond} (hts : ∀ w ∈ c0 :: W0, w.before args s = true) (hl : Cond.methodLink own idx yX0_restore ∈ W0) (hR : rm_X0_restore.frames + 1 ≤ R.frames ∧ 8 + (2 + 11) + rm_X0_restore.locals ≤ R.locals) : CallW R s args own RX0 idx yX0_restore cX0_restore 2 (some .int) (Cond.code yX0_restore cX0_restore 2 (some .int) :: W0) rm_X0_restore 0 0 1 := cwV 1 hts (gdV hl mi_yX0_restore ms_yX0_restore mini_X0 mc_yX0_restore) rfl rfl rfl (by decide +kernel) hR

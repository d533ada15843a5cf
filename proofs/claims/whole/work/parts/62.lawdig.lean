/-! ===== the law's calls of the digests ===== -/
section LWL
variable {p : Program} {l : Launch} {e : Env} {R : Room} {s : State} {m : MethodId} {args : Array Value} {below : List Frame} {meth : Method} {c : Code} {H : Heap} {locs : List Loc} {cells slots : Nat} {Q : State → Prop} {cc : ByteArray} {nL : Nat} {own : String} {c0 : Cond} {pc : Nat} {ls : Array Slot} {rest st0 : List Value} {D : va_G} {cI cR : ClassId} {ad : Nat → Nat} {om : Nat} {am : Nat → Nat} {v : EN} {ρ : Nat → Nat → Nat → Int32} {sp kp : Nat} {τ μ : Nat → Nat → Int32} {hh : Int64} {A : Nat → Prop}
theorem cl_SL {a : Array Value} {h : Int64} (hr : va_Run p l e R s m args below meth c H locs cells slots 0 0 (F0 m pc ls st0) rest (vpL h a) (fun _ => False))
    (kk : W p l e R s m args below meth c H locs cells slots Q (F0 m (pc + 3) ls (.long h :: rest))) : W p l e R s m args below meth c H locs cells slots Q (F0 m pc ls st0) := by
  intro T hT X
  obtain ⟨v1, st₀, t, T', L, h0, X', hL, e1, e2, ⟨hv, hh⟩, st⟩ := hr T hT X
  cases hv
  have hLn : L = [] := by
    cases L with
    | nil => rfl
    | cons q L => exact (hL q List.mem_cons_self).elim
  subst hLn
  rw [List.append_nil] at X'
  obtain ⟨t2, a1, b1⟩ := kk T' (e1.trans (hh.trans h0)) X'
  exact ⟨t2, st t2 a1, b1⟩
theorem lw_brL {y : MethodName} {bytes : ByteArray} {mL n index : Nat} {rt : Option FieldType} {ws : List Cond} {rm : Room} {As : List Value} {w : Int64} (hx : p.tables.exec = Jvm.exec) (hb : c.code = cc) (hml : c.maxLocals = nL) (hown : s.vm.findClass own = some m.cls) (hts : ∀ w ∈ c0 :: W0, w.before args s = true) (hK : brK D cI cR s) (hL : lwH D cI cR ad om am ρ sp kp τ μ hh H) (hI : lwI ad om am A) (hS : va_S A s.heap H locs) (hN : nE s)
    (hM : Met l y ws rm (va_Pc (.ref (ad 300) :: As) (fun U => brP D cI cR ad ρ sp kp τ U ∧ nE U)) (vpL w) 0 0 (fun _ => False)) (cw : CallW R s args own RX3 index y bytes mL rt ws rm 0 0 n)
    (hn : As.length = n) (hsize : ls.size = nL) (hst : st0 = As.reverse ++ .ref (ad 300) :: rest) (hW : (rest.map fun v => v.category).sum ≤ 8) (d : decode cc pc = .ok (.invokevirtual index, 3)) (hc : cells ≤ R.cells) (hs : slots ≤ R.slots)
    (kk : W p l e R s m args below meth c H locs cells slots Q (F0 m (pc + 3) ls (.long w :: rest))) : W p l e R s m args below meth c H locs cells slots Q (F0 m pc ls st0) :=
  cl_SL (va_runV (As := As) (rest := rest) ⟨hx, hb, hml, hown, hts⟩ hM cw ⟨brN_blind, br_recv hK hL.1, fun U hU hW => ⟨rfl, ⟨by rw [hU]; exact hL.1, va_K.moved hW.alike hK, hI.1⟩, nE_warm hW hN⟩⟩ rfl hn hsize hst (lv_room hW) d ⟨hc, hs⟩) kk
theorem lw_moL {y : MethodName} {bytes : ByteArray} {mL n index : Nat} {rt : Option FieldType} {ws : List Cond} {rm : Room} {As : List Value} {w : Int64} {μ' : Nat → Nat → Int32} (hx : p.tables.exec = Jvm.exec) (hb : c.code = cc) (hml : c.maxLocals = nL) (hown : s.vm.findClass own = some m.cls) (hts : ∀ w ∈ c0 :: W0, w.before args s = true) (hK : brK D cI cR s) (hL : lwH D cI cR ad om am ρ sp kp τ μ hh H) (hI : lwI ad om am A) (hS : va_S A s.heap H locs)
    (hM : Met l y ws rm (va_Pc (.ref om :: As) (moM D cI om am μ hh)) (moL D cI om am w μ') 0 0 (moA om am)) (cw : CallW R s args own RX4 index y bytes mL rt ws rm 0 0 n)
    (hn : As.length = n) (hsize : ls.size = nL) (hst : st0 = As.reverse ++ .ref om :: rest) (hW : (rest.map fun v => v.category).sum ≤ 8) (d : decode cc pc = .ok (.invokevirtual index, 3)) (hc : cells ≤ R.cells) (hs : slots ≤ R.slots)
    (kk : ∀ (H1 : Heap) (locs1 : List Loc), lwH D cI cR ad om am ρ sp kp τ μ' w H1 → va_S A s.heap H1 locs1 → W p l e R s m args below meth c H1 locs1 cells slots Q (F0 m (pc + 3) ls (.long w :: rest))) : W p l e R s m args below meth c H locs cells slots Q (F0 m pc ls st0) := by
  have hr := va_runV (As := As) (rest := rest) (locs := locs) (slots := slots) (below := below) (meth := meth) (p := p) (e := e) ⟨hx, hb, hml, hown, hts⟩ hM cw ⟨mo_blindM, va_recv (ci := 4) (q0 := 0) (brK_1 hK) hL.2 rfl rfl, fun U hU hW => ⟨rfl, ⟨by rw [hU]; exact hL.2, va_K.moved hW.alike (brK_1 hK)⟩, hI.2.1⟩⟩ (g := F0 m pc ls st0) rfl hn hsize hst (lv_room hW) d ⟨hc, hs⟩
  intro T hT X
  obtain ⟨v1, st₀, t, T', L, h0, X', hL1, e1, e2, ⟨hv, hp, hF⟩, st⟩ := hr T hT X
  cases hv
  have hfr : ∀ z, z < H.size → ¬ moA om am z → T'.heap[z]? = H[z]? := fun z h1 h2 => by rw [e1, hF.2 z (by rw [h0]; exact h1) h2, h0]
  obtain ⟨t2, a1, b1⟩ := kk T'.heap (locs ++ L) ⟨brH_keep hL.1 hI.1 hI.2.2.1 hfr, by rw [e1]; exact hp.1⟩ ⟨Nat.le_trans hS.1 (by rw [e1, ← h0]; exact hF.1), fun z h1 h2 => by rw [hfr z (Nat.lt_of_lt_of_le h1 hS.1) (fun h => h2 (hI.2.2.2.2 z h))]; exact hS.2.1 z h1 h2, fun z hz => by
      rcases List.mem_append.mp hz with h | h
      · exact hS.2.2 z h
      · exact hI.2.2.2.2 _ (hL1 z h)⟩ T' rfl X'
  exact ⟨t2, st t2 a1, b1⟩
end LWL

/-! ===== base ===== -/
theorem br_p {α : Type} {c : Prop} [Decidable c] {a b v : α} (h : c) (k : v = a) : v = (if c then a else b) := by rw [if_pos h]; exact k
theorem br_n {α : Type} {c : Prop} [Decidable c] {a b v : α} (h : ¬ c) (k : v = b) : v = (if c then a else b) := by rw [if_neg h]; exact k
def tn (x : Int32) : Nat := x.toNatClampNeg
theorem tn_nI {n : Nat} (h : n < 2 ^ 31) : tn (nI n) = n := nI_clamp h
/-- what holds of a method's walk all along: the machine, the code, its return type, its locals, its class, the tables' words, no lock -/
def Cx (p : Program) (s : State) (m : MethodId) (meth : Method) (c : Code) (cc : ByteArray) (maxL : Nat) (ret : Option FieldType) (own : String) (Ts : List Cond) (args : Array Value) : Prop :=
  p.tables.exec = Jvm.exec ∧ c.code = cc ∧ meth.sig.returnType = ret ∧ c.maxLocals = maxL ∧ s.vm.findClass own = some m.cls ∧ (∀ w ∈ Ts, w.before args s = true) ∧ meth.locks = false
theorem hlN {l l' : List (Nat × Value)} {ls : Array Slot} {n : Nat} (h : lv_has ls n l) (e : l = l') : lv_has ls n l' := e ▸ h
theorem gd0 {c0 : Cond} : ∀ w ∈ W0, w ∈ c0 :: W0 ∧ ((w.onTables && w.keeps) = true ∨ ∃ ty, w = .arrayClass ty) := fun w h => ⟨List.mem_cons_of_mem _ h, (W0_g w h).2⟩
theorem gdV {c0 c1 : Cond} {own C : String} {idx : Nat} {y : MethodName} (h1 : Cond.methodLink own idx y ∈ W0) (h2 : Cond.instanceMethod y ∈ W0) (h3 : Cond.selects C y y ∈ W0) (h4 : Cond.initialized C ∈ W0) (h5 : c1 ∈ W0) : GoodIn (c0 :: W0) (wsV own idx C y (c1 :: W0)) := by
  intro w hw
  unfold wsV at hw
  simp only [List.cons_append, List.nil_append, List.mem_cons] at hw
  rcases hw with rfl | rfl | rfl | rfl | rfl | hw
  · exact gd0 _ h1
  · exact gd0 _ h2
  · exact gd0 _ h3
  · exact gd0 _ h4
  · exact gd0 _ h5
  · exact gd0 _ hw
theorem gdS {c0 c1 : Cond} {own : String} {idx : Nat} {y : MethodName} (h1 : Cond.methodLink own idx y ∈ W0) (h2 : Cond.static y ∈ W0) (h4 : Cond.initialized y.cls ∈ W0) (h5 : c1 ∈ W0) : GoodIn (c0 :: W0) (va_wsS own idx y (c1 :: W0)) := by
  intro w hw
  unfold va_wsS at hw
  simp only [List.cons_append, List.nil_append, List.mem_cons] at hw
  rcases hw with rfl | rfl | rfl | rfl | hw
  · exact gd0 _ h1
  · exact gd0 _ h2
  · exact gd0 _ h4
  · exact gd0 _ h5
  · exact gd0 _ hw
theorem gdI {c0 c1 : Cond} (h5 : c1 ∈ W0) : GoodIn (c0 :: W0) (c1 :: W0) := by
  intro w hw
  rcases List.mem_cons.mp hw with rfl | hw
  · exact gd0 _ h5
  · exact gd0 _ hw
/-- a contract, from the walk of its body -/
theorem st_gen {l : Launch} {y : MethodName} {ws' : List Cond} {rm : Room} {cc : ByteArray} {maxL : Nat} {ret : Option FieldType} {Qc : Array Value → State → Outcome → State → Prop} {mc ms : Nat} {free : Addr → Prop} {av : List Value} {Pre : State → Prop} {own : String}
    (hy : plainName y.cls = true) (hyc : y.cls = own) (hn : (lg_sl av).length ≤ maxL)
    (body : ∀ (p : Program) (e : Env) (s : State) (m : MethodId) (below : List Frame) (meth : Method) (c : Code) (ls : Array Slot), Cx p s m meth c cc maxL ret own (Cond.code y cc maxL ret :: ws') av.toArray → Pre s → lv_has ls maxL (lv_args 0 av) →
      W p l e rm s m av.toArray below meth c s.heap [] 0 0 (MQ below Qc av.toArray s mc ms free) (F0 m 0 ls [])) :
    Met l y (Cond.code y cc maxL ret :: ws') rm (va_Pc av Pre) Qc mc ms free := by
  refine Met.ofW (cc := cc) (maxL := maxL) (ret := ret) hy rfl ?_
  intro p e s m args below meth c s₁ B hml hv
  obtain ⟨rfl, hP⟩ := hv
  have hts := atoms_spec (ws := Cond.code y cc maxL ret :: ws') B.pre
  have hown : s.vm.findClass own = some m.cls := hyc ▸ findClass_of_methodNamed B.named
  rw [lg_entry_eq]
  exact body p e s m below meth c _ ⟨B.exec, B.bytes, B.returns, hml, hown, hts, B.notSynchronized⟩ hP (lv_entry av hn)
section BASE
variable {p : Program} {l : Launch} {e : Env} {R : Room} {s : State} {m : MethodId} {args : Array Value} {below : List Frame} {meth : Method} {c : Code} {H : Heap} {locs : List Loc} {cells slots : Nat} {Q : State → Prop} {cc : ByteArray} {maxL nL : Nat} {ret : Option FieldType} {own : String} {c0 : Cond} {pc : Nat} {ls : Array Slot} {rest st0 : List Value} {A0 : Nat → Prop} {H0 : Heap} {free : Addr → Prop}
/-- the end of a contract that changes nothing -/
theorem fin_i {w v : Int32} (hx : p.tables.exec = Jvm.exec) (hb : c.code = cc) (hr : meth.sig.returnType = some .int) (hlk : meth.locks = false) (h : v = w) (d : decode cc pc = .ok (.ireturn, 1)) :
    W p l e R s m args below meth c s.heap [] 0 0 (MQ below (vp_Si (fun r => r = w)) args s 0 0 (fun _ => False)) (F0 m pc ls [.int v]) :=
  W.iret hx hb hr (fun t ht _ => ⟨v, rfl, h, ht⟩) (fun q hq => absurd hq List.not_mem_nil) d hlk
theorem nar_z {v : Int32} (hz : v = 0 ∨ v = 1) : narrow .boolean (.int v) = .int v := by rcases hz with rfl | rfl <;> decide
theorem fin_z {w v : Int32} (hx : p.tables.exec = Jvm.exec) (hb : c.code = cc) (hr : meth.sig.returnType = some .boolean) (hlk : meth.locks = false) (hz : v = 0 ∨ v = 1) (h : v = w) (d : decode cc pc = .ok (.ireturn, 1)) :
    W p l e R s m args below meth c s.heap [] 0 0 (MQ below (vp_Si (fun r => r = w)) args s 0 0 (fun _ => False)) (F0 m pc ls [.int v]) :=
  W.zret hx hb hr (nar_z hz) (fun t ht _ => ⟨v, rfl, h, ht⟩) (fun q hq => absurd hq List.not_mem_nil) d hlk
theorem blind_true {av : List Value} : FrameBlind (va_Pc av (fun _ => True)) := fun _ _ _ _ q => ⟨q.1, trivial⟩
/-- a call that changes nothing: its answer is known -/
theorem cl_Si {a : Array Value} {v : Int32} (hr : va_Run p l e R s m args below meth c H locs cells slots 0 0 (F0 m pc ls st0) rest (vp_Si (fun r => r = v) a) (fun _ => False))
    (kk : W p l e R s m args below meth c H locs cells slots Q (F0 m (pc + 3) ls (.int v :: rest))) : W p l e R s m args below meth c H locs cells slots Q (F0 m pc ls st0) := by
  intro T hT X
  obtain ⟨v1, st₀, t, T', L, h0, X', hL, e1, e2, ⟨r, hv, hp, hh⟩, st⟩ := hr T hT X
  cases hv
  subst hp
  have hLn : L = [] := by
    cases L with
    | nil => rfl
    | cons q L => exact (hL q List.mem_cons_self).elim
  subst hLn
  rw [List.append_nil] at X'
  obtain ⟨t2, a1, b1⟩ := kk T' (e1.trans (hh.trans h0)) X'
  exact ⟨t2, st t2 a1, b1⟩
/-- a static call that changes nothing and needs nothing of the heap -/
theorem cl_S {y : MethodName} {bytes : ByteArray} {mL n index : Nat} {rt : Option FieldType} {ws : List Cond} {rm : Room} {As : List Value} {v : Int32} (hx : p.tables.exec = Jvm.exec) (hb : c.code = cc) (hml : c.maxLocals = nL) (hown : s.vm.findClass own = some m.cls) (hts : ∀ w ∈ c0 :: W0, w.before args s = true)
    (hM : Met l y ws rm (va_Pc As (fun _ => True)) (vp_Si (fun r => r = v)) 0 0 (fun _ => False)) (cw : CallB R s args own index y bytes mL rt ws rm 0 0 n ∧ (Cond.static y).before args s = true)
    (hn : As.length = n) (hsize : ls.size = nL) (hst : st0 = As.reverse ++ rest) (hW : (rest.map fun v => v.category).sum ≤ 8) (d : decode cc pc = .ok (.invokestatic index, 3)) (hc : cells ≤ R.cells) (hs : slots ≤ R.slots)
    (kk : W p l e R s m args below meth c H locs cells slots Q (F0 m (pc + 3) ls (.int v :: rest))) : W p l e R s m args below meth c H locs cells slots Q (F0 m pc ls st0) :=
  cl_Si (va_runS (As := As) (rest := rest) ⟨hx, hb, hml, hown, hts⟩ hM cw ⟨blind_true, fun _ _ _ => ⟨rfl, trivial⟩⟩ rfl hn hsize hst (lv_room hW) d ⟨hc, hs⟩) kk
-- indices and counters as natural numbers
theorem nI_c1 (k : Nat) : nI k + Int32.ofInt 1 = nI (k + 1) := nI_1 k
theorem nI_cm1 (k : Nat) : nI (k + 1) + Int32.ofInt (-1) = nI k := pk_m1 k
theorem lv_iaddN {x y : Nat} (hx : p.tables.exec = Jvm.exec) (hb : c.code = cc) {u v : Int32} (hu : u = nI x) (hv : v = nI y) (hdg : decode cc pc = .ok (.iadd, 1))
    (k : W p l e R s m args below meth c H locs cells slots Q (F0 m (pc + 1) ls (.int (nI (x + y)) :: rest))) : W p l e R s m args below meth c H locs cells slots Q (F0 m pc ls (.int v :: .int u :: rest)) := by
  subst hu; subst hv; exact lv_iadd hx hb hdg (by rw [nI_add]; exact k)
theorem lv_imulN {x y : Nat} (hx : p.tables.exec = Jvm.exec) (hb : c.code = cc) {u v : Int32} (hu : u = nI x) (hv : v = nI y) (hdg : decode cc pc = .ok (.imul, 1))
    (k : W p l e R s m args below meth c H locs cells slots Q (F0 m (pc + 1) ls (.int (nI (x * y)) :: rest))) : W p l e R s m args below meth c H locs cells slots Q (F0 m pc ls (.int v :: .int u :: rest)) := by
  subst hu; subst hv; exact lv_imul hx hb hdg (by rw [pk_mul]; exact k)
theorem lv_isubN {x y : Nat} (hx : p.tables.exec = Jvm.exec) (hb : c.code = cc) {u v : Int32} (hu : u = nI x) (hv : v = nI y) (hyx : y ≤ x) (hdg : decode cc pc = .ok (.isub, 1))
    (k : W p l e R s m args below meth c H locs cells slots Q (F0 m (pc + 1) ls (.int (nI (x - y)) :: rest))) : W p l e R s m args below meth c H locs cells slots Q (F0 m pc ls (.int v :: .int u :: rest)) := by
  subst hu; subst hv; exact lv_isub hx hb hdg (by rw [pk_sub hyx]; exact k)
theorem lv_icmp_geN (a b : Nat) (hx : p.tables.exec = Jvm.exec) (hb : c.code = cc) {x y : Int32} (hxa : x = nI a) (hyb : y = nI b) (ha : a < 2 ^ 31) (hb2 : b < 2 ^ 31) {off : Int} {tgt : Nat} (hdg : decode cc pc = .ok (.if_icmp .ge off, 3)) (ht : (pc : Int) + off = (tgt : Int))
    (kt : b ≤ a → W p l e R s m args below meth c H locs cells slots Q (F0 m tgt ls rest)) (kf : ¬ b ≤ a → W p l e R s m args below meth c H locs cells slots Q (F0 m (pc + 3) ls rest)) : W p l e R s m args below meth c H locs cells slots Q (F0 m pc ls (.int y :: .int x :: rest)) := by
  subst hxa; subst hyb
  exact lv_icmp_ge hx hb hdg ht (fun q => kt ((nI_leI hb2 ha).mp q)) (fun q => kf (fun z => q ((nI_leI hb2 ha).mpr z)))
theorem lv_icmp_ltN (a b : Nat) (hx : p.tables.exec = Jvm.exec) (hb : c.code = cc) {x y : Int32} (hxa : x = nI a) (hyb : y = nI b) (ha : a < 2 ^ 31) (hb2 : b < 2 ^ 31) {off : Int} {tgt : Nat} (hdg : decode cc pc = .ok (.if_icmp .lt off, 3)) (ht : (pc : Int) + off = (tgt : Int))
    (kt : a < b → W p l e R s m args below meth c H locs cells slots Q (F0 m tgt ls rest)) (kf : ¬ a < b → W p l e R s m args below meth c H locs cells slots Q (F0 m (pc + 3) ls rest)) : W p l e R s m args below meth c H locs cells slots Q (F0 m pc ls (.int y :: .int x :: rest)) := by
  subst hxa; subst hyb
  exact lv_icmp_lt hx hb hdg ht (fun q => kt ((nI_ltI ha hb2).mp q)) (fun q => kf (fun z => q ((nI_ltI ha hb2).mpr z)))
theorem lv_icmp_gtN (a b : Nat) (hx : p.tables.exec = Jvm.exec) (hb : c.code = cc) {x y : Int32} (hxa : x = nI a) (hyb : y = nI b) (ha : a < 2 ^ 31) (hb2 : b < 2 ^ 31) {off : Int} {tgt : Nat} (hdg : decode cc pc = .ok (.if_icmp .gt off, 3)) (ht : (pc : Int) + off = (tgt : Int))
    (kt : b < a → W p l e R s m args below meth c H locs cells slots Q (F0 m tgt ls rest)) (kf : ¬ b < a → W p l e R s m args below meth c H locs cells slots Q (F0 m (pc + 3) ls rest)) : W p l e R s m args below meth c H locs cells slots Q (F0 m pc ls (.int y :: .int x :: rest)) := by
  subst hxa; subst hyb
  exact lv_icmp_gt hx hb hdg ht (fun q => kt ((nI_ltI hb2 ha).mp q)) (fun q => kf (fun z => q ((nI_ltI hb2 ha).mpr z)))
theorem lv_icmp_leN (a b : Nat) (hx : p.tables.exec = Jvm.exec) (hb : c.code = cc) {x y : Int32} (hxa : x = nI a) (hyb : y = nI b) (ha : a < 2 ^ 31) (hb2 : b < 2 ^ 31) {off : Int} {tgt : Nat} (hdg : decode cc pc = .ok (.if_icmp .le off, 3)) (ht : (pc : Int) + off = (tgt : Int))
    (kt : a ≤ b → W p l e R s m args below meth c H locs cells slots Q (F0 m tgt ls rest)) (kf : ¬ a ≤ b → W p l e R s m args below meth c H locs cells slots Q (F0 m (pc + 3) ls rest)) : W p l e R s m args below meth c H locs cells slots Q (F0 m pc ls (.int y :: .int x :: rest)) := by
  subst hxa; subst hyb
  exact lv_icmp_le hx hb hdg ht (fun q => kt ((nI_leI ha hb2).mp q)) (fun q => kf (fun z => q ((nI_leI ha hb2).mpr z)))
theorem lv_icmp_eqN (a b : Nat) (hx : p.tables.exec = Jvm.exec) (hb : c.code = cc) {x y : Int32} (hxa : x = nI a) (hyb : y = nI b) (ha : a < 2 ^ 31) (hb2 : b < 2 ^ 31) {off : Int} {tgt : Nat} (hdg : decode cc pc = .ok (.if_icmp .eq off, 3)) (ht : (pc : Int) + off = (tgt : Int))
    (kt : a = b → W p l e R s m args below meth c H locs cells slots Q (F0 m tgt ls rest)) (kf : ¬ a = b → W p l e R s m args below meth c H locs cells slots Q (F0 m (pc + 3) ls rest)) : W p l e R s m args below meth c H locs cells slots Q (F0 m pc ls (.int y :: .int x :: rest)) := by
  subst hxa; subst hyb
  exact lv_icmp_eq hx hb hdg ht (fun q => kt ((nI_eq ha hb2).mp q)) (fun q => kf (fun z => q ((nI_eq ha hb2).mpr z)))
theorem lv_icmp_neN (a b : Nat) (hx : p.tables.exec = Jvm.exec) (hb : c.code = cc) {x y : Int32} (hxa : x = nI a) (hyb : y = nI b) (ha : a < 2 ^ 31) (hb2 : b < 2 ^ 31) {off : Int} {tgt : Nat} (hdg : decode cc pc = .ok (.if_icmp .ne off, 3)) (ht : (pc : Int) + off = (tgt : Int))
    (kt : ¬ a = b → W p l e R s m args below meth c H locs cells slots Q (F0 m tgt ls rest)) (kf : a = b → W p l e R s m args below meth c H locs cells slots Q (F0 m (pc + 3) ls rest)) : W p l e R s m args below meth c H locs cells slots Q (F0 m pc ls (.int y :: .int x :: rest)) := by
  subst hxa; subst hyb
  exact lv_icmp_ne hx hb hdg ht (fun q => kt (fun z => q ((nI_eq ha hb2).mpr z))) (fun q => kf ((nI_eq ha hb2).mp q))
theorem lv_if_eqN (a : Nat) (hx : p.tables.exec = Jvm.exec) (hb : c.code = cc) {x : Int32} (hxa : x = nI a) (ha : a < 2 ^ 31) {off : Int} {tgt : Nat} (hdg : decode cc pc = .ok (.ifCond .eq off, 3)) (ht : (pc : Int) + off = (tgt : Int))
    (kt : a = 0 → W p l e R s m args below meth c H locs cells slots Q (F0 m tgt ls rest)) (kf : ¬ a = 0 → W p l e R s m args below meth c H locs cells slots Q (F0 m (pc + 3) ls rest)) : W p l e R s m args below meth c H locs cells slots Q (F0 m pc ls (.int x :: rest)) := by
  subst hxa
  exact lv_if_eq hx hb hdg ht (fun q => kt ((nI_eq ha (by decide) (b := 0)).mp q)) (fun q => kf (fun z => q ((nI_eq ha (by decide) (b := 0)).mpr z)))
theorem lv_if_neN (a : Nat) (hx : p.tables.exec = Jvm.exec) (hb : c.code = cc) {x : Int32} (hxa : x = nI a) (ha : a < 2 ^ 31) {off : Int} {tgt : Nat} (hdg : decode cc pc = .ok (.ifCond .ne off, 3)) (ht : (pc : Int) + off = (tgt : Int))
    (kt : ¬ a = 0 → W p l e R s m args below meth c H locs cells slots Q (F0 m tgt ls rest)) (kf : a = 0 → W p l e R s m args below meth c H locs cells slots Q (F0 m (pc + 3) ls rest)) : W p l e R s m args below meth c H locs cells slots Q (F0 m pc ls (.int x :: rest)) := by
  subst hxa
  exact lv_if_ne hx hb hdg ht (fun q => kt (fun z => q ((nI_eq ha (by decide) (b := 0)).mpr z))) (fun q => kf ((nI_eq ha (by decide) (b := 0)).mp q))
theorem lv_if_gtN (a : Nat) (hx : p.tables.exec = Jvm.exec) (hb : c.code = cc) {x : Int32} (hxa : x = nI a) (ha : a < 2 ^ 31) {off : Int} {tgt : Nat} (hdg : decode cc pc = .ok (.ifCond .gt off, 3)) (ht : (pc : Int) + off = (tgt : Int))
    (kt : 0 < a → W p l e R s m args below meth c H locs cells slots Q (F0 m tgt ls rest)) (kf : ¬ 0 < a → W p l e R s m args below meth c H locs cells slots Q (F0 m (pc + 3) ls rest)) : W p l e R s m args below meth c H locs cells slots Q (F0 m pc ls (.int x :: rest)) := by
  subst hxa
  exact lv_if_gt hx hb hdg ht (fun q => kt ((nI_ltI (a := 0) (by decide) ha).mp q)) (fun q => kf (fun z => q ((nI_ltI (a := 0) (by decide) ha).mpr z)))
theorem lv_if_leN (a : Nat) (hx : p.tables.exec = Jvm.exec) (hb : c.code = cc) {x : Int32} (hxa : x = nI a) (ha : a < 2 ^ 31) {off : Int} {tgt : Nat} (hdg : decode cc pc = .ok (.ifCond .le off, 3)) (ht : (pc : Int) + off = (tgt : Int))
    (kt : a = 0 → W p l e R s m args below meth c H locs cells slots Q (F0 m tgt ls rest)) (kf : ¬ a = 0 → W p l e R s m args below meth c H locs cells slots Q (F0 m (pc + 3) ls rest)) : W p l e R s m args below meth c H locs cells slots Q (F0 m pc ls (.int x :: rest)) := by
  subst hxa
  exact lv_if_le hx hb hdg ht (fun q => kt (((nI_leI ha (by decide) (b := 0)).trans Nat.le_zero).mp q)) (fun q => kf (fun z => q (((nI_leI ha (by decide) (b := 0)).trans Nat.le_zero).mpr z)))
theorem dec_lt {k : Nat} (h : k < 2 ^ 31) : nI k - 1 < 0 ↔ k = 0 := by
  cases k with
  | zero => exact ⟨fun _ => rfl, fun _ => by decide⟩
  | succ n => rw [nI_pred]; exact ⟨fun q => absurd q (nI_pos (by omega)), fun q => by cases q⟩
theorem lv_if_ltD (k : Nat) (hx : p.tables.exec = Jvm.exec) (hb : c.code = cc) {x : Int32} (hxk : x = nI k - 1) (hk : k < 2 ^ 31) {off : Int} {tgt : Nat} (hdg : decode cc pc = .ok (.ifCond .lt off, 3)) (ht : (pc : Int) + off = (tgt : Int))
    (kt : k = 0 → W p l e R s m args below meth c H locs cells slots Q (F0 m tgt ls rest)) (kf : ¬ k = 0 → W p l e R s m args below meth c H locs cells slots Q (F0 m (pc + 3) ls rest)) : W p l e R s m args below meth c H locs cells slots Q (F0 m pc ls (.int x :: rest)) := by
  subst hxk
  exact lv_if_lt hx hb hdg ht (fun q => kt ((dec_lt hk).mp q)) (fun q => kf (fun z => q ((dec_lt hk).mpr z)))
theorem dec_at {k : Nat} (h : ¬ k = 0) : nI k - 1 = nI (k - 1) := pk_sub (b := 1) (by omega)
theorem dec_inc {k : Nat} (h : ¬ k = 0) : nI k - 1 + Int32.ofInt (-1) = nI (k - 1) - 1 := by rw [dec_at h, show Int32.ofInt (-1) = -1 by decide, Int32.sub_eq_add_neg]
theorem iinc_m (x : Int32) : x + Int32.ofInt (-1) = x - 1 := by rw [show Int32.ofInt (-1) = -1 by decide, Int32.sub_eq_add_neg]
theorem nI_cd {k : Nat} (h : 0 < k) : nI k + Int32.ofInt (-1) = nI (k - 1) := by
  obtain ⟨j, rfl⟩ : ∃ j, k = j + 1 := ⟨k - 1, by omega⟩
  exact pk_m1 j
theorem r_max (hx : p.tables.exec = Jvm.exec) (hb : c.code = cc) (hml : c.maxLocals = nL) (hown : s.vm.findClass own = some m.cls) (hts : ∀ w ∈ c0 :: W0, w.before args s = true) (hsize : ls.size = nL) {index : Nat} (hl : Cond.methodLink own index yJ9_max_7cf53 ∈ W0)
    (hframes : 1 ≤ R.frames) (hlocals : (rest.map fun v => v.category).sum + 13 ≤ R.locals) (hc : cells ≤ R.cells) (hs : slots ≤ R.slots) {x y : Int32} (hdg : decode cc pc = .ok (.invokestatic index, 3))
    (kk : W p l e R s m args below meth c H locs cells slots Q (F0 m (pc + 3) ls (.int (if x < y then y else x) :: rest))) : W p l e R s m args below meth c H locs cells slots Q (F0 m pc ls (.int y :: .int x :: rest)) :=
  va_mmax hx hb (hml.trans hsize.symm) hown (hts _ (List.mem_cons_of_mem _ hl)) (hts _ (List.mem_cons_of_mem _ mst_yJ9_max_7cf53)) (hts _ (List.mem_cons_of_mem _ mini_J9)) (hts _ (List.mem_cons_of_mem _ mc_yJ9_max_7cf53)) hframes hlocals hc hs hdg kk
theorem r_min (hx : p.tables.exec = Jvm.exec) (hb : c.code = cc) (hml : c.maxLocals = nL) (hown : s.vm.findClass own = some m.cls) (hts : ∀ w ∈ c0 :: W0, w.before args s = true) (hsize : ls.size = nL) {index : Nat} (hl : Cond.methodLink own index yJ9_min_7cf53 ∈ W0)
    (hframes : 1 ≤ R.frames) (hlocals : (rest.map fun v => v.category).sum + 13 ≤ R.locals) (hc : cells ≤ R.cells) (hs : slots ≤ R.slots) {x y : Int32} (hdg : decode cc pc = .ok (.invokestatic index, 3))
    (kk : W p l e R s m args below meth c H locs cells slots Q (F0 m (pc + 3) ls (.int (if y < x then y else x) :: rest))) : W p l e R s m args below meth c H locs cells slots Q (F0 m pc ls (.int y :: .int x :: rest)) :=
  va_mmin hx hb (hml.trans hsize.symm) hown (hts _ (List.mem_cons_of_mem _ hl)) (hts _ (List.mem_cons_of_mem _ mst_yJ9_min_7cf53)) (hts _ (List.mem_cons_of_mem _ mini_J9)) (hts _ (List.mem_cons_of_mem _ mc_yJ9_min_7cf53)) hframes hlocals hc hs hdg kk
theorem ne_toInt {x : Int32} {k : Int32} (h : ¬ x = k) : x.toInt ≠ k.toInt := fun q => h (Int32.toInt_inj.mp q)
theorem lv_sw_in {dflt lo hi : Int} {offs : Array Int} {len : Nat} {x k : Int32} {off : Int} {tgt : Nat} (hx : p.tables.exec = Jvm.exec) (hb : c.code = cc) (hdg : decode cc pc = .ok (.tableswitch dflt lo hi offs, len)) (h : x = k) (h1 : ¬ k.toInt < lo) (h2 : ¬ hi < k.toInt) (ho : offs[(k.toInt - lo).toNat]? = some off) (ht : (pc : Int) + off = (tgt : Int))
    (kk : W p l e R s m args below meth c H locs cells slots Q (F0 m tgt ls rest)) : W p l e R s m args below meth c H locs cells slots Q (F0 m pc ls (.int x :: rest)) := by
  subst h; exact lv_tableIn hx hb hdg h1 h2 ho ht kk
end BASE
def shU (σ : Nat → Nat → Int32) (k j : Nat) (x : Int32) : Nat → Nat → Int32 := va_up σ k (upd (σ k) j x)
def shS (σ : Nat → Nat → Int32) (k : Nat) (x : Int32) : Nat → Nat → Int32 := va_up σ k (fun _ => x)
theorem shU_eq {σ : Nat → Nat → Int32} {f k : Nat} {x : Int32} : shU σ f k x f k = x := by unfold shU va_up upd; rw [if_pos rfl, if_pos rfl]
theorem shU_ne {σ : Nat → Nat → Int32} {f k j : Nat} {x : Int32} (h : j ≠ k) : shU σ f k x f j = σ f j := by unfold shU va_up upd; rw [if_pos rfl, if_neg h]
theorem shU_f {σ : Nat → Nat → Int32} {f f' k : Nat} {x : Int32} (h : f' ≠ f) : shU σ f k x f' = σ f' := if_neg h
theorem shU_at {σ : Nat → Nat → Int32} {f k j : Nat} {x : Int32} : shU σ f k x f j = if j = k then x else σ f j := by unfold shU va_up upd; rw [if_pos rfl]
theorem shS_eq {σ : Nat → Nat → Int32} {f j : Nat} {x : Int32} : shS σ f x f j = x := by unfold shS va_up; rw [if_pos rfl]
theorem shS_f {σ : Nat → Nat → Int32} {f f' : Nat} {x : Int32} (h : f' ≠ f) : shS σ f x f' = σ f' := if_neg h
theorem va_D_fst {A : Nat → Prop} {ws ws' : va_W} (h : ws.map Prod.fst = ws'.map Prod.fst) (hD : va_D A ws) : va_D A ws' := by
  have key : ∀ (i : Nat) (q : Nat × va_E), ws'[i]? = some q → ∃ e, ws[i]? = some (q.1, e) := by
    intro i q hq
    have h1 : (ws'.map Prod.fst)[i]? = some q.1 := by rw [List.getElem?_map, hq]; rfl
    rw [← h, List.getElem?_map] at h1
    cases hw : ws[i]? with
    | none => rw [hw] at h1; cases h1
    | some z => rw [hw] at h1; exact ⟨z.2, by rw [← Option.some.inj h1]⟩
  refine ⟨fun i j x y hx hy hxy => ?_, fun k q hq => ?_⟩
  · obtain ⟨e1, k1⟩ := key i x hx
    obtain ⟨e2, k2⟩ := key j y hy
    exact hD.1 i j _ _ k1 k2 hxy
  · obtain ⟨e1, k1⟩ := key k q hq
    exact (hD.2 k (q.1, e1) k1 : A q.1)
/-! ===== world sh: an object of BookRental$Shop and its rows ===== -/
def shW (cI : ClassId) (o : Nat) (a : Nat → Nat) (σ : Nat → Nat → Int32) : va_W :=
  [(o, .inr (2, [.int (σ 0 0), .int (σ 1 0), .int (σ 2 0), .int (σ 3 0), .ref (a 4), .ref (a 5), .ref (a 6), .ref (a 7), .ref (a 8), .ref (a 9), .ref (a 10), .ref (a 11), .ref (a 12), .ref (a 13), .ref (a 14), .ref (a 15), .ref (a 16), .ref (a 17)])), (a 4, .inl (cI, 4, .inl (σ 4))), (a 5, .inl (cI, 6, .inl (σ 5))), (a 6, .inl (cI, 6, .inl (σ 6))), (a 7, .inl (cI, 6, .inl (σ 7))), (a 8, .inl (cI, 6, .inl (σ 8))), (a 9, .inl (cI, 6, .inl (σ 9))), (a 10, .inl (cI, 60, .inl (σ 10))), (a 11, .inl (cI, 60, .inl (σ 11))), (a 12, .inl (cI, 60, .inl (σ 12))), (a 13, .inl (cI, 60, .inl (σ 13))), (a 14, .inl (cI, 60, .inl (σ 14))), (a 15, .inl (cI, 60, .inl (σ 15))), (a 16, .inl (cI, 7, .inl (σ 16))), (a 17, .inl (cI, 8, .inl (σ 17)))]
def shA (o : Nat) (a : Nat → Nat) : Nat → Prop := fun q => q = o ∨ q = a 4 ∨ q = a 5 ∨ q = a 6 ∨ q = a 7 ∨ q = a 8 ∨ q = a 9 ∨ q = a 10 ∨ q = a 11 ∨ q = a 12 ∨ q = a 13 ∨ q = a 14 ∨ q = a 15 ∨ q = a 16 ∨ q = a 17
def shD (o : Nat) (a : Nat → Nat) : Prop := va_D (fun _ => True) (shW 0 o a (fun _ _ => 0))
theorem shD_of {cI : ClassId} {o : Nat} {a : Nat → Nat} {σ : Nat → Nat → Int32} (h : shD o a) : va_D (shA o a) (shW cI o a σ) := by
  have h1 : va_D (fun _ => True) (shW cI o a σ) := va_D_fst (ws := shW 0 o a (fun _ _ => 0)) rfl h
  refine ⟨h1.1, fun k q hq => ?_⟩
  match k, hq with
  | 0, hq => cases hq; exact Or.inl rfl
  | 1, hq => cases hq; exact Or.inr (Or.inl rfl)
  | 2, hq => cases hq; exact Or.inr (Or.inr (Or.inl rfl))
  | 3, hq => cases hq; exact Or.inr (Or.inr (Or.inr (Or.inl rfl)))
  | 4, hq => cases hq; exact Or.inr (Or.inr (Or.inr (Or.inr (Or.inl rfl))))
  | 5, hq => cases hq; exact Or.inr (Or.inr (Or.inr (Or.inr (Or.inr (Or.inl rfl)))))
  | 6, hq => cases hq; exact Or.inr (Or.inr (Or.inr (Or.inr (Or.inr (Or.inr (Or.inl rfl))))))
  | 7, hq => cases hq; exact Or.inr (Or.inr (Or.inr (Or.inr (Or.inr (Or.inr (Or.inr (Or.inl rfl)))))))
  | 8, hq => cases hq; exact Or.inr (Or.inr (Or.inr (Or.inr (Or.inr (Or.inr (Or.inr (Or.inr (Or.inl rfl))))))))
  | 9, hq => cases hq; exact Or.inr (Or.inr (Or.inr (Or.inr (Or.inr (Or.inr (Or.inr (Or.inr (Or.inr (Or.inl rfl)))))))))
  | 10, hq => cases hq; exact Or.inr (Or.inr (Or.inr (Or.inr (Or.inr (Or.inr (Or.inr (Or.inr (Or.inr (Or.inr (Or.inl rfl))))))))))
  | 11, hq => cases hq; exact Or.inr (Or.inr (Or.inr (Or.inr (Or.inr (Or.inr (Or.inr (Or.inr (Or.inr (Or.inr (Or.inr (Or.inl rfl)))))))))))
  | 12, hq => cases hq; exact Or.inr (Or.inr (Or.inr (Or.inr (Or.inr (Or.inr (Or.inr (Or.inr (Or.inr (Or.inr (Or.inr (Or.inr (Or.inl rfl))))))))))))
  | 13, hq => cases hq; exact Or.inr (Or.inr (Or.inr (Or.inr (Or.inr (Or.inr (Or.inr (Or.inr (Or.inr (Or.inr (Or.inr (Or.inr (Or.inr (Or.inl rfl)))))))))))))
  | 14, hq => cases hq; exact Or.inr (Or.inr (Or.inr (Or.inr (Or.inr (Or.inr (Or.inr (Or.inr (Or.inr (Or.inr (Or.inr (Or.inr (Or.inr (Or.inr (rfl))))))))))))))
  | k + 15, hq => cases hq
def shP (D : va_G) (cI : ClassId) (o : Nat) (a : Nat → Nat) (σ : Nat → Nat → Int32) (U : State) : Prop := va_P D vwCl (shW cI o a σ) U.heap ∧ va_K D vwCl [(cI, .int)] U
def shM (D : va_G) (cI : ClassId) (o : Nat) (a : Nat → Nat) (σ : Nat → Nat → Int32) (U : State) : Prop := shP D cI o a σ U ∧ shD o a
theorem sh_blind {av : List Value} {D : va_G} {cI : ClassId} {o : Nat} {a : Nat → Nat} {σ : Nat → Nat → Int32} : FrameBlind (va_Pc av (shP D cI o a σ)) := fun b U g mk q => ⟨q.1, q.2.1, va_K.moved (u := U) (U := U.calling g mk b) (Vm.Alike.refl U.vm) q.2.2⟩
theorem sh_blindM {av : List Value} {D : va_G} {cI : ClassId} {o : Nat} {a : Nat → Nat} {σ : Nat → Nat → Int32} : FrameBlind (va_Pc av (shM D cI o a σ)) := fun b U g mk q => ⟨q.1, ⟨q.2.1.1, va_K.moved (u := U) (U := U.calling g mk b) (Vm.Alike.refl U.vm) q.2.1.2⟩, q.2.2⟩
/-- the end of a contract that changes the world: an int, or nothing, and the new state -/
def shQ (D : va_G) (cI : ClassId) (o : Nat) (a : Nat → Nat) (w : Int32 × (Nat → Nat → Int32)) : Array Value → State → Outcome → State → Prop := fun _ st oc t => oc = .returned (some (.int w.1)) ∧ shP D cI o a w.2 t ∧ va_F (shA o a) st t
def shV (D : va_G) (cI : ClassId) (o : Nat) (a : Nat → Nat) (w : Nat → Nat → Int32) : Array Value → State → Outcome → State → Prop := fun _ st oc t => oc = .returned none ∧ shP D cI o a w t ∧ va_F (shA o a) st t
section SH
variable {p : Program} {l : Launch} {e : Env} {R : Room} {s : State} {m : MethodId} {args : Array Value} {below : List Frame} {meth : Method} {c : Code} {H : Heap} {locs : List Loc} {cells slots : Nat} {Q : State → Prop} {cc : ByteArray} {maxL nL : Nat} {ret : Option FieldType} {own : String} {c0 : Cond} {pc : Nat} {ls : Array Slot} {rest st0 : List Value} {A0 : Nat → Prop} {H0 : Heap} {free : Addr → Prop} {D : va_G} {cI : ClassId} {o : Nat} {a : Nat → Nat} {σ : Nat → Nat → Int32}
/-- a call on the same object that changes nothing -/
theorem sh_call {y : MethodName} {bytes : ByteArray} {mL n index : Nat} {rt : Option FieldType} {ws : List Cond} {rm : Room} {As : List Value} {v : Int32} (hx : p.tables.exec = Jvm.exec) (hb : c.code = cc) (hml : c.maxLocals = nL) (hown : s.vm.findClass own = some m.cls) (hts : ∀ w ∈ c0 :: W0, w.before args s = true) (hK : va_K D vwCl [(cI, .int)] s) (hP : va_P D vwCl (shW cI o a σ) H)
    (hM : Met l y ws rm (va_Pc (.ref o :: As) (shP D cI o a σ)) (vp_Si (fun r => r = v)) 0 0 (fun _ => False)) (cw : CallW R s args own RX2 index y bytes mL rt ws rm 0 0 n)
    (hn : As.length = n) (hsize : ls.size = nL) (hst : st0 = As.reverse ++ .ref o :: rest) (hW : (rest.map fun v => v.category).sum ≤ 8) (d : decode cc pc = .ok (.invokevirtual index, 3)) (hc : cells ≤ R.cells) (hs : slots ≤ R.slots)
    (kk : W p l e R s m args below meth c H locs cells slots Q (F0 m (pc + 3) ls (.int v :: rest))) : W p l e R s m args below meth c H locs cells slots Q (F0 m pc ls st0) :=
  cl_Si (va_runV (As := As) (rest := rest) ⟨hx, hb, hml, hown, hts⟩ hM cw ⟨sh_blind, va_recv (ci := 2) (q0 := 0) hK hP rfl rfl, fun U hU hW => ⟨rfl, by rw [hU]; exact hP, va_K.moved hW.alike hK⟩⟩ rfl hn hsize hst (lv_room hW) d ⟨hc, hs⟩) kk
/-- a call on the same object that changes it, and answers an int -/
theorem sh_callM {y : MethodName} {bytes : ByteArray} {mL n index : Nat} {rt : Option FieldType} {ws : List Cond} {rm : Room} {As : List Value} {w : Int32 × (Nat → Nat → Int32)} (hx : p.tables.exec = Jvm.exec) (hb : c.code = cc) (hml : c.maxLocals = nL) (hown : s.vm.findClass own = some m.cls) (hts : ∀ w ∈ c0 :: W0, w.before args s = true) (hK : va_K D vwCl [(cI, .int)] s) (hP : va_P D vwCl (shW cI o a σ) H) (hD : shD o a) (hS : va_S (shA o a) H0 H locs)
    (hM : Met l y ws rm (va_Pc (.ref o :: As) (shM D cI o a σ)) (shQ D cI o a w) 0 0 (shA o a)) (cw : CallW R s args own RX2 index y bytes mL rt ws rm 0 0 n)
    (hn : As.length = n) (hsize : ls.size = nL) (hst : st0 = As.reverse ++ .ref o :: rest) (hW : (rest.map fun v => v.category).sum ≤ 8) (d : decode cc pc = .ok (.invokevirtual index, 3)) (hc : cells ≤ R.cells) (hs : slots ≤ R.slots)
    (kk : ∀ (H1 : Heap) (locs1 : List Loc), va_P D vwCl (shW cI o a w.2) H1 → va_S (shA o a) H0 H1 locs1 → W p l e R s m args below meth c H1 locs1 cells slots Q (F0 m (pc + 3) ls (.int w.1 :: rest))) : W p l e R s m args below meth c H locs cells slots Q (F0 m pc ls st0) := by
  have hr := va_runV (As := As) (rest := rest) (locs := locs) (slots := slots) (below := below) (meth := meth) (p := p) (e := e) ⟨hx, hb, hml, hown, hts⟩ hM cw ⟨sh_blindM, va_recv (ci := 2) (q0 := 0) hK hP rfl rfl, fun U hU hW => ⟨rfl, ⟨by rw [hU]; exact hP, va_K.moved hW.alike hK⟩, hD⟩⟩ (g := F0 m pc ls st0) rfl hn hsize hst (lv_room hW) d ⟨hc, hs⟩
  intro T hT X
  obtain ⟨v1, st₀, t, T', L, h0, X', hL, e1, e2, ⟨hv, hp, hF⟩, st⟩ := hr T hT X
  cases hv
  obtain ⟨t2, a1, b1⟩ := kk T'.heap (locs ++ L) (by rw [e1]; exact hp.1) ⟨Nat.le_trans hS.1 (by rw [e1, ← h0]; exact hF.1), fun q h1 h2 => by rw [e1, hF.2 q (by rw [h0]; exact Nat.lt_of_lt_of_le h1 hS.1) h2, h0]; exact hS.2.1 q h1 h2, fun q hq => by
      rcases List.mem_append.mp hq with h | h
      · exact hS.2.2 q h
      · exact hL q h⟩ T' rfl X'
  exact ⟨t2, st t2 a1, b1⟩
theorem sh_callV {y : MethodName} {bytes : ByteArray} {mL n index : Nat} {rt : Option FieldType} {ws : List Cond} {rm : Room} {As : List Value} {w : Nat → Nat → Int32} (hx : p.tables.exec = Jvm.exec) (hb : c.code = cc) (hml : c.maxLocals = nL) (hown : s.vm.findClass own = some m.cls) (hts : ∀ w ∈ c0 :: W0, w.before args s = true) (hK : va_K D vwCl [(cI, .int)] s) (hP : va_P D vwCl (shW cI o a σ) H) (hD : shD o a) (hS : va_S (shA o a) H0 H locs)
    (hM : Met l y ws rm (va_Pc (.ref o :: As) (shM D cI o a σ)) (shV D cI o a w) 0 0 (shA o a)) (cw : CallW R s args own RX2 index y bytes mL rt ws rm 0 0 n)
    (hn : As.length = n) (hsize : ls.size = nL) (hst : st0 = As.reverse ++ .ref o :: rest) (hW : (rest.map fun v => v.category).sum ≤ 8) (d : decode cc pc = .ok (.invokevirtual index, 3)) (hc : cells ≤ R.cells) (hs : slots ≤ R.slots)
    (kk : ∀ (H1 : Heap) (locs1 : List Loc), va_P D vwCl (shW cI o a w) H1 → va_S (shA o a) H0 H1 locs1 → W p l e R s m args below meth c H1 locs1 cells slots Q (F0 m (pc + 3) ls rest)) : W p l e R s m args below meth c H locs cells slots Q (F0 m pc ls st0) := by
  have hr := va_runV (As := As) (rest := rest) (locs := locs) (slots := slots) (below := below) (meth := meth) (p := p) (e := e) ⟨hx, hb, hml, hown, hts⟩ hM cw ⟨sh_blindM, va_recv (ci := 2) (q0 := 0) hK hP rfl rfl, fun U hU hW => ⟨rfl, ⟨by rw [hU]; exact hP, va_K.moved hW.alike hK⟩, hD⟩⟩ (g := F0 m pc ls st0) rfl hn hsize hst (lv_room hW) d ⟨hc, hs⟩
  intro T hT X
  obtain ⟨v1, st₀, t, T', L, h0, X', hL, e1, e2, ⟨hv, hp, hF⟩, st⟩ := hr T hT X
  cases hv
  obtain ⟨t2, a1, b1⟩ := kk T'.heap (locs ++ L) (by rw [e1]; exact hp.1) ⟨Nat.le_trans hS.1 (by rw [e1, ← h0]; exact hF.1), fun q h1 h2 => by rw [e1, hF.2 q (by rw [h0]; exact Nat.lt_of_lt_of_le h1 hS.1) h2, h0]; exact hS.2.1 q h1 h2, fun q hq => by
      rcases List.mem_append.mp hq with h | h
      · exact hS.2.2 q h
      · exact hL q h⟩ T' rfl X'
  exact ⟨t2, st t2 a1, b1⟩
theorem sh_finM {w : Int32 × (Nat → Nat → Int32)} {v : Int32} (hx : p.tables.exec = Jvm.exec) (hb : c.code = cc) (hr : meth.sig.returnType = some .int) (hlk : meth.locks = false) (hK : va_K D vwCl [(cI, .int)] s) (hP : va_P D vwCl (shW cI o a σ) H) (hS : va_S (shA o a) s.heap H locs) (h : (v, σ) = w) (d : decode cc pc = .ok (.ireturn, 1)) :
    W p l e R s m args below meth c H locs 0 0 (MQ below (shQ D cI o a w) args s 0 0 (shA o a)) (F0 m pc ls [.int v]) := by
  subst h
  exact W.iret hx hb hr (fun t ht hW => ⟨rfl, ⟨by rw [ht]; exact hP, va_K.moved hW.alike hK⟩, hS.F ht⟩) hS.2.2 d hlk
theorem sh_finMz {w : Int32 × (Nat → Nat → Int32)} {v : Int32} (hx : p.tables.exec = Jvm.exec) (hb : c.code = cc) (hr : meth.sig.returnType = some .boolean) (hlk : meth.locks = false) (hK : va_K D vwCl [(cI, .int)] s) (hP : va_P D vwCl (shW cI o a σ) H) (hS : va_S (shA o a) s.heap H locs) (hz : v = 0 ∨ v = 1) (h : (v, σ) = w) (d : decode cc pc = .ok (.ireturn, 1)) :
    W p l e R s m args below meth c H locs 0 0 (MQ below (shQ D cI o a w) args s 0 0 (shA o a)) (F0 m pc ls [.int v]) := by
  subst h
  exact W.zret hx hb hr (nar_z hz) (fun t ht hW => ⟨rfl, ⟨by rw [ht]; exact hP, va_K.moved hW.alike hK⟩, hS.F ht⟩) hS.2.2 d hlk
theorem sh_finV {w : Nat → Nat → Int32} (hx : p.tables.exec = Jvm.exec) (hb : c.code = cc) (hr : meth.sig.returnType = none) (hlk : meth.locks = false) (hK : va_K D vwCl [(cI, .int)] s) (hP : va_P D vwCl (shW cI o a σ) H) (hS : va_S (shA o a) s.heap H locs) (h : σ = w) (d : decode cc pc = .ok (.return_, 1)) :
    W p l e R s m args below meth c H locs 0 0 (MQ below (shV D cI o a w) args s 0 0 (shA o a)) (F0 m pc ls []) := by
  subst h
  exact W.vret hx hb hr (fun t ht hW => ⟨rfl, ⟨by rw [ht]; exact hP, va_K.moved hW.alike hK⟩, hS.F ht⟩) hS.2.2 d hlk
theorem sh_g0 (hx : p.tables.exec = Jvm.exec) (hb : c.code = cc) (hts : ∀ w ∈ c0 :: W0, w.before args s = true) (hown : s.vm.findClass RX2 = some m.cls) (hK : va_K D vwCl [(cI, .int)] s) (hP : va_P D vwCl (shW cI o a σ) H) {v : Int32} (hv : σ 0 0 = v) (d : decode cc pc = .ok (.getfield 9, 3)) (kk : W p l e R s m args below meth c H locs cells slots Q (F0 m (pc + 3) ls (.int v :: rest))) : W p l e R s m args below meth c H locs cells slots Q (F0 m pc ls (.ref o :: rest)) := by
  subst hv
  exact va_get (ci := 2) (C := RX2) (T := TX2) (N := 18) (v := .int (σ 0 0)) hx hb hts (fun w h => List.mem_cons_of_mem _ (inX2 w h)) hown hK hP 0 rfl rfl 0 (by decide) (hts _ (List.mem_cons_of_mem _ mf_X2_9)) (fun _ h => h) rfl d kk
theorem sh_p0 (hx : p.tables.exec = Jvm.exec) (hb : c.code = cc) (hts : ∀ w ∈ c0 :: W0, w.before args s = true) (hown : s.vm.findClass RX2 = some m.cls) (hK : va_K D vwCl [(cI, .int)] s) (hP : va_P D vwCl (shW cI o a σ) H) (hD : shD o a) (hS : va_S (shA o a) H0 H locs) {x : Int32} (d : decode cc pc = .ok (.putfield 9, 3)) (kk : ∀ (H1 : Heap) (locs1 : List Loc), va_P D vwCl (shW cI o a (shS σ 0 x)) H1 → va_S (shA o a) H0 H1 locs1 → W p l e R s m args below meth c H1 locs1 cells slots Q (F0 m (pc + 3) ls rest)) : W p l e R s m args below meth c H locs cells slots Q (F0 m pc ls (.int x :: .ref o :: rest)) :=
  va_put (ci := 2) (C := RX2) (T := TX2) (N := 18) (v := .int x) (ty := .int) hx hb hts (fun w h => List.mem_cons_of_mem _ (inX2 w h)) tyX2 tyX2_ok nmX2 hown hK hP (shD_of hD) hS 0 rfl rfl 0 (by decide) (hts _ (List.mem_cons_of_mem _ mf_X2_9)) (fun _ h => h) rfl (by decide +kernel) rfl rfl (Nat.le_of_ble_eq_true rfl) d (fun H1 locs1 h1 _ h3 => kk H1 locs1 h1 h3)
theorem sh_g1 (hx : p.tables.exec = Jvm.exec) (hb : c.code = cc) (hts : ∀ w ∈ c0 :: W0, w.before args s = true) (hown : s.vm.findClass RX2 = some m.cls) (hK : va_K D vwCl [(cI, .int)] s) (hP : va_P D vwCl (shW cI o a σ) H) {v : Int32} (hv : σ 1 0 = v) (d : decode cc pc = .ok (.getfield 15, 3)) (kk : W p l e R s m args below meth c H locs cells slots Q (F0 m (pc + 3) ls (.int v :: rest))) : W p l e R s m args below meth c H locs cells slots Q (F0 m pc ls (.ref o :: rest)) := by
  subst hv
  exact va_get (ci := 2) (C := RX2) (T := TX2) (N := 18) (v := .int (σ 1 0)) hx hb hts (fun w h => List.mem_cons_of_mem _ (inX2 w h)) hown hK hP 0 rfl rfl 1 (by decide) (hts _ (List.mem_cons_of_mem _ mf_X2_15)) (fun _ h => h) rfl d kk
theorem sh_p1 (hx : p.tables.exec = Jvm.exec) (hb : c.code = cc) (hts : ∀ w ∈ c0 :: W0, w.before args s = true) (hown : s.vm.findClass RX2 = some m.cls) (hK : va_K D vwCl [(cI, .int)] s) (hP : va_P D vwCl (shW cI o a σ) H) (hD : shD o a) (hS : va_S (shA o a) H0 H locs) {x : Int32} (d : decode cc pc = .ok (.putfield 15, 3)) (kk : ∀ (H1 : Heap) (locs1 : List Loc), va_P D vwCl (shW cI o a (shS σ 1 x)) H1 → va_S (shA o a) H0 H1 locs1 → W p l e R s m args below meth c H1 locs1 cells slots Q (F0 m (pc + 3) ls rest)) : W p l e R s m args below meth c H locs cells slots Q (F0 m pc ls (.int x :: .ref o :: rest)) :=
  va_put (ci := 2) (C := RX2) (T := TX2) (N := 18) (v := .int x) (ty := .int) hx hb hts (fun w h => List.mem_cons_of_mem _ (inX2 w h)) tyX2 tyX2_ok nmX2 hown hK hP (shD_of hD) hS 0 rfl rfl 1 (by decide) (hts _ (List.mem_cons_of_mem _ mf_X2_15)) (fun _ h => h) rfl (by decide +kernel) rfl rfl (Nat.le_of_ble_eq_true rfl) d (fun H1 locs1 h1 _ h3 => kk H1 locs1 h1 h3)
theorem sh_g2 (hx : p.tables.exec = Jvm.exec) (hb : c.code = cc) (hts : ∀ w ∈ c0 :: W0, w.before args s = true) (hown : s.vm.findClass RX2 = some m.cls) (hK : va_K D vwCl [(cI, .int)] s) (hP : va_P D vwCl (shW cI o a σ) H) {v : Int32} (hv : σ 2 0 = v) (d : decode cc pc = .ok (.getfield 18, 3)) (kk : W p l e R s m args below meth c H locs cells slots Q (F0 m (pc + 3) ls (.int v :: rest))) : W p l e R s m args below meth c H locs cells slots Q (F0 m pc ls (.ref o :: rest)) := by
  subst hv
  exact va_get (ci := 2) (C := RX2) (T := TX2) (N := 18) (v := .int (σ 2 0)) hx hb hts (fun w h => List.mem_cons_of_mem _ (inX2 w h)) hown hK hP 0 rfl rfl 2 (by decide) (hts _ (List.mem_cons_of_mem _ mf_X2_18)) (fun _ h => h) rfl d kk
theorem sh_p2 (hx : p.tables.exec = Jvm.exec) (hb : c.code = cc) (hts : ∀ w ∈ c0 :: W0, w.before args s = true) (hown : s.vm.findClass RX2 = some m.cls) (hK : va_K D vwCl [(cI, .int)] s) (hP : va_P D vwCl (shW cI o a σ) H) (hD : shD o a) (hS : va_S (shA o a) H0 H locs) {x : Int32} (d : decode cc pc = .ok (.putfield 18, 3)) (kk : ∀ (H1 : Heap) (locs1 : List Loc), va_P D vwCl (shW cI o a (shS σ 2 x)) H1 → va_S (shA o a) H0 H1 locs1 → W p l e R s m args below meth c H1 locs1 cells slots Q (F0 m (pc + 3) ls rest)) : W p l e R s m args below meth c H locs cells slots Q (F0 m pc ls (.int x :: .ref o :: rest)) :=
  va_put (ci := 2) (C := RX2) (T := TX2) (N := 18) (v := .int x) (ty := .int) hx hb hts (fun w h => List.mem_cons_of_mem _ (inX2 w h)) tyX2 tyX2_ok nmX2 hown hK hP (shD_of hD) hS 0 rfl rfl 2 (by decide) (hts _ (List.mem_cons_of_mem _ mf_X2_18)) (fun _ h => h) rfl (by decide +kernel) rfl rfl (Nat.le_of_ble_eq_true rfl) d (fun H1 locs1 h1 _ h3 => kk H1 locs1 h1 h3)
theorem sh_g3 (hx : p.tables.exec = Jvm.exec) (hb : c.code = cc) (hts : ∀ w ∈ c0 :: W0, w.before args s = true) (hown : s.vm.findClass RX2 = some m.cls) (hK : va_K D vwCl [(cI, .int)] s) (hP : va_P D vwCl (shW cI o a σ) H) {v : Int32} (hv : σ 3 0 = v) (d : decode cc pc = .ok (.getfield 21, 3)) (kk : W p l e R s m args below meth c H locs cells slots Q (F0 m (pc + 3) ls (.int v :: rest))) : W p l e R s m args below meth c H locs cells slots Q (F0 m pc ls (.ref o :: rest)) := by
  subst hv
  exact va_get (ci := 2) (C := RX2) (T := TX2) (N := 18) (v := .int (σ 3 0)) hx hb hts (fun w h => List.mem_cons_of_mem _ (inX2 w h)) hown hK hP 0 rfl rfl 3 (by decide) (hts _ (List.mem_cons_of_mem _ mf_X2_21)) (fun _ h => h) rfl d kk
theorem sh_p3 (hx : p.tables.exec = Jvm.exec) (hb : c.code = cc) (hts : ∀ w ∈ c0 :: W0, w.before args s = true) (hown : s.vm.findClass RX2 = some m.cls) (hK : va_K D vwCl [(cI, .int)] s) (hP : va_P D vwCl (shW cI o a σ) H) (hD : shD o a) (hS : va_S (shA o a) H0 H locs) {x : Int32} (d : decode cc pc = .ok (.putfield 21, 3)) (kk : ∀ (H1 : Heap) (locs1 : List Loc), va_P D vwCl (shW cI o a (shS σ 3 x)) H1 → va_S (shA o a) H0 H1 locs1 → W p l e R s m args below meth c H1 locs1 cells slots Q (F0 m (pc + 3) ls rest)) : W p l e R s m args below meth c H locs cells slots Q (F0 m pc ls (.int x :: .ref o :: rest)) :=
  va_put (ci := 2) (C := RX2) (T := TX2) (N := 18) (v := .int x) (ty := .int) hx hb hts (fun w h => List.mem_cons_of_mem _ (inX2 w h)) tyX2 tyX2_ok nmX2 hown hK hP (shD_of hD) hS 0 rfl rfl 3 (by decide) (hts _ (List.mem_cons_of_mem _ mf_X2_21)) (fun _ h => h) rfl (by decide +kernel) rfl rfl (Nat.le_of_ble_eq_true rfl) d (fun H1 locs1 h1 _ h3 => kk H1 locs1 h1 h3)
theorem sh_g4 (hx : p.tables.exec = Jvm.exec) (hb : c.code = cc) (hts : ∀ w ∈ c0 :: W0, w.before args s = true) (hown : s.vm.findClass RX2 = some m.cls) (hK : va_K D vwCl [(cI, .int)] s) (hP : va_P D vwCl (shW cI o a σ) H) (d : decode cc pc = .ok (.getfield 24, 3)) (kk : W p l e R s m args below meth c H locs cells slots Q (F0 m (pc + 3) ls (.ref (a 4) :: rest))) : W p l e R s m args below meth c H locs cells slots Q (F0 m pc ls (.ref o :: rest)) :=
  va_get (ci := 2) (C := RX2) (T := TX2) (N := 18) (v := .ref (a 4)) hx hb hts (fun w h => List.mem_cons_of_mem _ (inX2 w h)) hown hK hP 0 rfl rfl 4 (by decide) (hts _ (List.mem_cons_of_mem _ mf_X2_24)) (fun _ h => h) rfl d kk
theorem sh_r4 (hx : p.tables.exec = Jvm.exec) (hb : c.code = cc) (hK : va_K D vwCl [(cI, .int)] s) (hP : va_P D vwCl (shW cI o a σ) H) {i : Int32} (j : Nat) (hi : i = nI j) (hj : j < 4) {v : Int32} (hv : σ 4 j = v) (d : decode cc pc = .ok (.iaload, 1)) (kk : W p l e R s m args below meth c H locs cells slots Q (F0 m (pc + 1) ls (.int v :: rest))) : W p l e R s m args below meth c H locs cells slots Q (F0 m pc ls (.int i :: .ref (a 4) :: rest)) := by
  subst hi; subst hv
  exact va_iald (n := 4) (f := σ 4) hx hb hK hP 1 0 rfl rfl (vp_in_nI hj (by decide)) d (by rw [nI_clamp (Nat.lt_trans hj (by decide))]; exact kk)
theorem sh_w4 (hx : p.tables.exec = Jvm.exec) (hb : c.code = cc) (hK : va_K D vwCl [(cI, .int)] s) (hP : va_P D vwCl (shW cI o a σ) H) (hD : shD o a) (hS : va_S (shA o a) H0 H locs) {i x : Int32} (j : Nat) (hi : i = nI j) (hj : j < 4) (d : decode cc pc = .ok (.iastore, 1)) (kk : ∀ (H1 : Heap) (locs1 : List Loc), va_P D vwCl (shW cI o a (shU σ 4 j x)) H1 → va_S (shA o a) H0 H1 locs1 → W p l e R s m args below meth c H1 locs1 cells slots Q (F0 m (pc + 1) ls rest)) : W p l e R s m args below meth c H locs cells slots Q (F0 m pc ls (.int x :: .int i :: .ref (a 4) :: rest)) := by
  subst hi
  refine va_iast (n := 4) (f := σ 4) hx hb hK hP (shD_of hD) hS 1 0 rfl rfl (vp_in_nI hj (by decide)) d (fun H1 locs1 h1 _ h3 => kk H1 locs1 ?_ h3)
  rw [nI_clamp (Nat.lt_trans hj (by decide))] at h1
  exact h1
theorem sh_g5 (hx : p.tables.exec = Jvm.exec) (hb : c.code = cc) (hts : ∀ w ∈ c0 :: W0, w.before args s = true) (hown : s.vm.findClass RX2 = some m.cls) (hK : va_K D vwCl [(cI, .int)] s) (hP : va_P D vwCl (shW cI o a σ) H) (d : decode cc pc = .ok (.getfield 28, 3)) (kk : W p l e R s m args below meth c H locs cells slots Q (F0 m (pc + 3) ls (.ref (a 5) :: rest))) : W p l e R s m args below meth c H locs cells slots Q (F0 m pc ls (.ref o :: rest)) :=
  va_get (ci := 2) (C := RX2) (T := TX2) (N := 18) (v := .ref (a 5)) hx hb hts (fun w h => List.mem_cons_of_mem _ (inX2 w h)) hown hK hP 0 rfl rfl 5 (by decide) (hts _ (List.mem_cons_of_mem _ mf_X2_28)) (fun _ h => h) rfl d kk
theorem sh_r5 (hx : p.tables.exec = Jvm.exec) (hb : c.code = cc) (hK : va_K D vwCl [(cI, .int)] s) (hP : va_P D vwCl (shW cI o a σ) H) {i : Int32} (j : Nat) (hi : i = nI j) (hj : j < 6) {v : Int32} (hv : σ 5 j = v) (d : decode cc pc = .ok (.iaload, 1)) (kk : W p l e R s m args below meth c H locs cells slots Q (F0 m (pc + 1) ls (.int v :: rest))) : W p l e R s m args below meth c H locs cells slots Q (F0 m pc ls (.int i :: .ref (a 5) :: rest)) := by
  subst hi; subst hv
  exact va_iald (n := 6) (f := σ 5) hx hb hK hP 2 0 rfl rfl (vp_in_nI hj (by decide)) d (by rw [nI_clamp (Nat.lt_trans hj (by decide))]; exact kk)
theorem sh_w5 (hx : p.tables.exec = Jvm.exec) (hb : c.code = cc) (hK : va_K D vwCl [(cI, .int)] s) (hP : va_P D vwCl (shW cI o a σ) H) (hD : shD o a) (hS : va_S (shA o a) H0 H locs) {i x : Int32} (j : Nat) (hi : i = nI j) (hj : j < 6) (d : decode cc pc = .ok (.iastore, 1)) (kk : ∀ (H1 : Heap) (locs1 : List Loc), va_P D vwCl (shW cI o a (shU σ 5 j x)) H1 → va_S (shA o a) H0 H1 locs1 → W p l e R s m args below meth c H1 locs1 cells slots Q (F0 m (pc + 1) ls rest)) : W p l e R s m args below meth c H locs cells slots Q (F0 m pc ls (.int x :: .int i :: .ref (a 5) :: rest)) := by
  subst hi
  refine va_iast (n := 6) (f := σ 5) hx hb hK hP (shD_of hD) hS 2 0 rfl rfl (vp_in_nI hj (by decide)) d (fun H1 locs1 h1 _ h3 => kk H1 locs1 ?_ h3)
  rw [nI_clamp (Nat.lt_trans hj (by decide))] at h1
  exact h1
theorem sh_g6 (hx : p.tables.exec = Jvm.exec) (hb : c.code = cc) (hts : ∀ w ∈ c0 :: W0, w.before args s = true) (hown : s.vm.findClass RX2 = some m.cls) (hK : va_K D vwCl [(cI, .int)] s) (hP : va_P D vwCl (shW cI o a σ) H) (d : decode cc pc = .ok (.getfield 31, 3)) (kk : W p l e R s m args below meth c H locs cells slots Q (F0 m (pc + 3) ls (.ref (a 6) :: rest))) : W p l e R s m args below meth c H locs cells slots Q (F0 m pc ls (.ref o :: rest)) :=
  va_get (ci := 2) (C := RX2) (T := TX2) (N := 18) (v := .ref (a 6)) hx hb hts (fun w h => List.mem_cons_of_mem _ (inX2 w h)) hown hK hP 0 rfl rfl 6 (by decide) (hts _ (List.mem_cons_of_mem _ mf_X2_31)) (fun _ h => h) rfl d kk
theorem sh_r6 (hx : p.tables.exec = Jvm.exec) (hb : c.code = cc) (hK : va_K D vwCl [(cI, .int)] s) (hP : va_P D vwCl (shW cI o a σ) H) {i : Int32} (j : Nat) (hi : i = nI j) (hj : j < 6) {v : Int32} (hv : σ 6 j = v) (d : decode cc pc = .ok (.iaload, 1)) (kk : W p l e R s m args below meth c H locs cells slots Q (F0 m (pc + 1) ls (.int v :: rest))) : W p l e R s m args below meth c H locs cells slots Q (F0 m pc ls (.int i :: .ref (a 6) :: rest)) := by
  subst hi; subst hv
  exact va_iald (n := 6) (f := σ 6) hx hb hK hP 3 0 rfl rfl (vp_in_nI hj (by decide)) d (by rw [nI_clamp (Nat.lt_trans hj (by decide))]; exact kk)
theorem sh_w6 (hx : p.tables.exec = Jvm.exec) (hb : c.code = cc) (hK : va_K D vwCl [(cI, .int)] s) (hP : va_P D vwCl (shW cI o a σ) H) (hD : shD o a) (hS : va_S (shA o a) H0 H locs) {i x : Int32} (j : Nat) (hi : i = nI j) (hj : j < 6) (d : decode cc pc = .ok (.iastore, 1)) (kk : ∀ (H1 : Heap) (locs1 : List Loc), va_P D vwCl (shW cI o a (shU σ 6 j x)) H1 → va_S (shA o a) H0 H1 locs1 → W p l e R s m args below meth c H1 locs1 cells slots Q (F0 m (pc + 1) ls rest)) : W p l e R s m args below meth c H locs cells slots Q (F0 m pc ls (.int x :: .int i :: .ref (a 6) :: rest)) := by
  subst hi
  refine va_iast (n := 6) (f := σ 6) hx hb hK hP (shD_of hD) hS 3 0 rfl rfl (vp_in_nI hj (by decide)) d (fun H1 locs1 h1 _ h3 => kk H1 locs1 ?_ h3)
  rw [nI_clamp (Nat.lt_trans hj (by decide))] at h1
  exact h1
theorem sh_g7 (hx : p.tables.exec = Jvm.exec) (hb : c.code = cc) (hts : ∀ w ∈ c0 :: W0, w.before args s = true) (hown : s.vm.findClass RX2 = some m.cls) (hK : va_K D vwCl [(cI, .int)] s) (hP : va_P D vwCl (shW cI o a σ) H) (d : decode cc pc = .ok (.getfield 34, 3)) (kk : W p l e R s m args below meth c H locs cells slots Q (F0 m (pc + 3) ls (.ref (a 7) :: rest))) : W p l e R s m args below meth c H locs cells slots Q (F0 m pc ls (.ref o :: rest)) :=
  va_get (ci := 2) (C := RX2) (T := TX2) (N := 18) (v := .ref (a 7)) hx hb hts (fun w h => List.mem_cons_of_mem _ (inX2 w h)) hown hK hP 0 rfl rfl 7 (by decide) (hts _ (List.mem_cons_of_mem _ mf_X2_34)) (fun _ h => h) rfl d kk
theorem sh_r7 (hx : p.tables.exec = Jvm.exec) (hb : c.code = cc) (hK : va_K D vwCl [(cI, .int)] s) (hP : va_P D vwCl (shW cI o a σ) H) {i : Int32} (j : Nat) (hi : i = nI j) (hj : j < 6) {v : Int32} (hv : σ 7 j = v) (d : decode cc pc = .ok (.iaload, 1)) (kk : W p l e R s m args below meth c H locs cells slots Q (F0 m (pc + 1) ls (.int v :: rest))) : W p l e R s m args below meth c H locs cells slots Q (F0 m pc ls (.int i :: .ref (a 7) :: rest)) := by
  subst hi; subst hv
  exact va_iald (n := 6) (f := σ 7) hx hb hK hP 4 0 rfl rfl (vp_in_nI hj (by decide)) d (by rw [nI_clamp (Nat.lt_trans hj (by decide))]; exact kk)
theorem sh_w7 (hx : p.tables.exec = Jvm.exec) (hb : c.code = cc) (hK : va_K D vwCl [(cI, .int)] s) (hP : va_P D vwCl (shW cI o a σ) H) (hD : shD o a) (hS : va_S (shA o a) H0 H locs) {i x : Int32} (j : Nat) (hi : i = nI j) (hj : j < 6) (d : decode cc pc = .ok (.iastore, 1)) (kk : ∀ (H1 : Heap) (locs1 : List Loc), va_P D vwCl (shW cI o a (shU σ 7 j x)) H1 → va_S (shA o a) H0 H1 locs1 → W p l e R s m args below meth c H1 locs1 cells slots Q (F0 m (pc + 1) ls rest)) : W p l e R s m args below meth c H locs cells slots Q (F0 m pc ls (.int x :: .int i :: .ref (a 7) :: rest)) := by
  subst hi
  refine va_iast (n := 6) (f := σ 7) hx hb hK hP (shD_of hD) hS 4 0 rfl rfl (vp_in_nI hj (by decide)) d (fun H1 locs1 h1 _ h3 => kk H1 locs1 ?_ h3)
  rw [nI_clamp (Nat.lt_trans hj (by decide))] at h1
  exact h1
theorem sh_g8 (hx : p.tables.exec = Jvm.exec) (hb : c.code = cc) (hts : ∀ w ∈ c0 :: W0, w.before args s = true) (hown : s.vm.findClass RX2 = some m.cls) (hK : va_K D vwCl [(cI, .int)] s) (hP : va_P D vwCl (shW cI o a σ) H) (d : decode cc pc = .ok (.getfield 37, 3)) (kk : W p l e R s m args below meth c H locs cells slots Q (F0 m (pc + 3) ls (.ref (a 8) :: rest))) : W p l e R s m args below meth c H locs cells slots Q (F0 m pc ls (.ref o :: rest)) :=
  va_get (ci := 2) (C := RX2) (T := TX2) (N := 18) (v := .ref (a 8)) hx hb hts (fun w h => List.mem_cons_of_mem _ (inX2 w h)) hown hK hP 0 rfl rfl 8 (by decide) (hts _ (List.mem_cons_of_mem _ mf_X2_37)) (fun _ h => h) rfl d kk
theorem sh_r8 (hx : p.tables.exec = Jvm.exec) (hb : c.code = cc) (hK : va_K D vwCl [(cI, .int)] s) (hP : va_P D vwCl (shW cI o a σ) H) {i : Int32} (j : Nat) (hi : i = nI j) (hj : j < 6) {v : Int32} (hv : σ 8 j = v) (d : decode cc pc = .ok (.iaload, 1)) (kk : W p l e R s m args below meth c H locs cells slots Q (F0 m (pc + 1) ls (.int v :: rest))) : W p l e R s m args below meth c H locs cells slots Q (F0 m pc ls (.int i :: .ref (a 8) :: rest)) := by
  subst hi; subst hv
  exact va_iald (n := 6) (f := σ 8) hx hb hK hP 5 0 rfl rfl (vp_in_nI hj (by decide)) d (by rw [nI_clamp (Nat.lt_trans hj (by decide))]; exact kk)
theorem sh_w8 (hx : p.tables.exec = Jvm.exec) (hb : c.code = cc) (hK : va_K D vwCl [(cI, .int)] s) (hP : va_P D vwCl (shW cI o a σ) H) (hD : shD o a) (hS : va_S (shA o a) H0 H locs) {i x : Int32} (j : Nat) (hi : i = nI j) (hj : j < 6) (d : decode cc pc = .ok (.iastore, 1)) (kk : ∀ (H1 : Heap) (locs1 : List Loc), va_P D vwCl (shW cI o a (shU σ 8 j x)) H1 → va_S (shA o a) H0 H1 locs1 → W p l e R s m args below meth c H1 locs1 cells slots Q (F0 m (pc + 1) ls rest)) : W p l e R s m args below meth c H locs cells slots Q (F0 m pc ls (.int x :: .int i :: .ref (a 8) :: rest)) := by
  subst hi
  refine va_iast (n := 6) (f := σ 8) hx hb hK hP (shD_of hD) hS 5 0 rfl rfl (vp_in_nI hj (by decide)) d (fun H1 locs1 h1 _ h3 => kk H1 locs1 ?_ h3)
  rw [nI_clamp (Nat.lt_trans hj (by decide))] at h1
  exact h1
theorem sh_g9 (hx : p.tables.exec = Jvm.exec) (hb : c.code = cc) (hts : ∀ w ∈ c0 :: W0, w.before args s = true) (hown : s.vm.findClass RX2 = some m.cls) (hK : va_K D vwCl [(cI, .int)] s) (hP : va_P D vwCl (shW cI o a σ) H) (d : decode cc pc = .ok (.getfield 40, 3)) (kk : W p l e R s m args below meth c H locs cells slots Q (F0 m (pc + 3) ls (.ref (a 9) :: rest))) : W p l e R s m args below meth c H locs cells slots Q (F0 m pc ls (.ref o :: rest)) :=
  va_get (ci := 2) (C := RX2) (T := TX2) (N := 18) (v := .ref (a 9)) hx hb hts (fun w h => List.mem_cons_of_mem _ (inX2 w h)) hown hK hP 0 rfl rfl 9 (by decide) (hts _ (List.mem_cons_of_mem _ mf_X2_40)) (fun _ h => h) rfl d kk
theorem sh_r9 (hx : p.tables.exec = Jvm.exec) (hb : c.code = cc) (hK : va_K D vwCl [(cI, .int)] s) (hP : va_P D vwCl (shW cI o a σ) H) {i : Int32} (j : Nat) (hi : i = nI j) (hj : j < 6) {v : Int32} (hv : σ 9 j = v) (d : decode cc pc = .ok (.iaload, 1)) (kk : W p l e R s m args below meth c H locs cells slots Q (F0 m (pc + 1) ls (.int v :: rest))) : W p l e R s m args below meth c H locs cells slots Q (F0 m pc ls (.int i :: .ref (a 9) :: rest)) := by
  subst hi; subst hv
  exact va_iald (n := 6) (f := σ 9) hx hb hK hP 6 0 rfl rfl (vp_in_nI hj (by decide)) d (by rw [nI_clamp (Nat.lt_trans hj (by decide))]; exact kk)
theorem sh_w9 (hx : p.tables.exec = Jvm.exec) (hb : c.code = cc) (hK : va_K D vwCl [(cI, .int)] s) (hP : va_P D vwCl (shW cI o a σ) H) (hD : shD o a) (hS : va_S (shA o a) H0 H locs) {i x : Int32} (j : Nat) (hi : i = nI j) (hj : j < 6) (d : decode cc pc = .ok (.iastore, 1)) (kk : ∀ (H1 : Heap) (locs1 : List Loc), va_P D vwCl (shW cI o a (shU σ 9 j x)) H1 → va_S (shA o a) H0 H1 locs1 → W p l e R s m args below meth c H1 locs1 cells slots Q (F0 m (pc + 1) ls rest)) : W p l e R s m args below meth c H locs cells slots Q (F0 m pc ls (.int x :: .int i :: .ref (a 9) :: rest)) := by
  subst hi
  refine va_iast (n := 6) (f := σ 9) hx hb hK hP (shD_of hD) hS 6 0 rfl rfl (vp_in_nI hj (by decide)) d (fun H1 locs1 h1 _ h3 => kk H1 locs1 ?_ h3)
  rw [nI_clamp (Nat.lt_trans hj (by decide))] at h1
  exact h1
theorem sh_g10 (hx : p.tables.exec = Jvm.exec) (hb : c.code = cc) (hts : ∀ w ∈ c0 :: W0, w.before args s = true) (hown : s.vm.findClass RX2 = some m.cls) (hK : va_K D vwCl [(cI, .int)] s) (hP : va_P D vwCl (shW cI o a σ) H) (d : decode cc pc = .ok (.getfield 43, 3)) (kk : W p l e R s m args below meth c H locs cells slots Q (F0 m (pc + 3) ls (.ref (a 10) :: rest))) : W p l e R s m args below meth c H locs cells slots Q (F0 m pc ls (.ref o :: rest)) :=
  va_get (ci := 2) (C := RX2) (T := TX2) (N := 18) (v := .ref (a 10)) hx hb hts (fun w h => List.mem_cons_of_mem _ (inX2 w h)) hown hK hP 0 rfl rfl 10 (by decide) (hts _ (List.mem_cons_of_mem _ mf_X2_43)) (fun _ h => h) rfl d kk
theorem sh_r10 (hx : p.tables.exec = Jvm.exec) (hb : c.code = cc) (hK : va_K D vwCl [(cI, .int)] s) (hP : va_P D vwCl (shW cI o a σ) H) {i : Int32} (j : Nat) (hi : i = nI j) (hj : j < 60) {v : Int32} (hv : σ 10 j = v) (d : decode cc pc = .ok (.iaload, 1)) (kk : W p l e R s m args below meth c H locs cells slots Q (F0 m (pc + 1) ls (.int v :: rest))) : W p l e R s m args below meth c H locs cells slots Q (F0 m pc ls (.int i :: .ref (a 10) :: rest)) := by
  subst hi; subst hv
  exact va_iald (n := 60) (f := σ 10) hx hb hK hP 7 0 rfl rfl (vp_in_nI hj (by decide)) d (by rw [nI_clamp (Nat.lt_trans hj (by decide))]; exact kk)
theorem sh_w10 (hx : p.tables.exec = Jvm.exec) (hb : c.code = cc) (hK : va_K D vwCl [(cI, .int)] s) (hP : va_P D vwCl (shW cI o a σ) H) (hD : shD o a) (hS : va_S (shA o a) H0 H locs) {i x : Int32} (j : Nat) (hi : i = nI j) (hj : j < 60) (d : decode cc pc = .ok (.iastore, 1)) (kk : ∀ (H1 : Heap) (locs1 : List Loc), va_P D vwCl (shW cI o a (shU σ 10 j x)) H1 → va_S (shA o a) H0 H1 locs1 → W p l e R s m args below meth c H1 locs1 cells slots Q (F0 m (pc + 1) ls rest)) : W p l e R s m args below meth c H locs cells slots Q (F0 m pc ls (.int x :: .int i :: .ref (a 10) :: rest)) := by
  subst hi
  refine va_iast (n := 60) (f := σ 10) hx hb hK hP (shD_of hD) hS 7 0 rfl rfl (vp_in_nI hj (by decide)) d (fun H1 locs1 h1 _ h3 => kk H1 locs1 ?_ h3)
  rw [nI_clamp (Nat.lt_trans hj (by decide))] at h1
  exact h1
theorem sh_g11 (hx : p.tables.exec = Jvm.exec) (hb : c.code = cc) (hts : ∀ w ∈ c0 :: W0, w.before args s = true) (hown : s.vm.findClass RX2 = some m.cls) (hK : va_K D vwCl [(cI, .int)] s) (hP : va_P D vwCl (shW cI o a σ) H) (d : decode cc pc = .ok (.getfield 46, 3)) (kk : W p l e R s m args below meth c H locs cells slots Q (F0 m (pc + 3) ls (.ref (a 11) :: rest))) : W p l e R s m args below meth c H locs cells slots Q (F0 m pc ls (.ref o :: rest)) :=
  va_get (ci := 2) (C := RX2) (T := TX2) (N := 18) (v := .ref (a 11)) hx hb hts (fun w h => List.mem_cons_of_mem _ (inX2 w h)) hown hK hP 0 rfl rfl 11 (by decide) (hts _ (List.mem_cons_of_mem _ mf_X2_46)) (fun _ h => h) rfl d kk
theorem sh_r11 (hx : p.tables.exec = Jvm.exec) (hb : c.code = cc) (hK : va_K D vwCl [(cI, .int)] s) (hP : va_P D vwCl (shW cI o a σ) H) {i : Int32} (j : Nat) (hi : i = nI j) (hj : j < 60) {v : Int32} (hv : σ 11 j = v) (d : decode cc pc = .ok (.iaload, 1)) (kk : W p l e R s m args below meth c H locs cells slots Q (F0 m (pc + 1) ls (.int v :: rest))) : W p l e R s m args below meth c H locs cells slots Q (F0 m pc ls (.int i :: .ref (a 11) :: rest)) := by
  subst hi; subst hv
  exact va_iald (n := 60) (f := σ 11) hx hb hK hP 8 0 rfl rfl (vp_in_nI hj (by decide)) d (by rw [nI_clamp (Nat.lt_trans hj (by decide))]; exact kk)
theorem sh_w11 (hx : p.tables.exec = Jvm.exec) (hb : c.code = cc) (hK : va_K D vwCl [(cI, .int)] s) (hP : va_P D vwCl (shW cI o a σ) H) (hD : shD o a) (hS : va_S (shA o a) H0 H locs) {i x : Int32} (j : Nat) (hi : i = nI j) (hj : j < 60) (d : decode cc pc = .ok (.iastore, 1)) (kk : ∀ (H1 : Heap) (locs1 : List Loc), va_P D vwCl (shW cI o a (shU σ 11 j x)) H1 → va_S (shA o a) H0 H1 locs1 → W p l e R s m args below meth c H1 locs1 cells slots Q (F0 m (pc + 1) ls rest)) : W p l e R s m args below meth c H locs cells slots Q (F0 m pc ls (.int x :: .int i :: .ref (a 11) :: rest)) := by
  subst hi
  refine va_iast (n := 60) (f := σ 11) hx hb hK hP (shD_of hD) hS 8 0 rfl rfl (vp_in_nI hj (by decide)) d (fun H1 locs1 h1 _ h3 => kk H1 locs1 ?_ h3)
  rw [nI_clamp (Nat.lt_trans hj (by decide))] at h1
  exact h1
theorem sh_g12 (hx : p.tables.exec = Jvm.exec) (hb : c.code = cc) (hts : ∀ w ∈ c0 :: W0, w.before args s = true) (hown : s.vm.findClass RX2 = some m.cls) (hK : va_K D vwCl [(cI, .int)] s) (hP : va_P D vwCl (shW cI o a σ) H) (d : decode cc pc = .ok (.getfield 49, 3)) (kk : W p l e R s m args below meth c H locs cells slots Q (F0 m (pc + 3) ls (.ref (a 12) :: rest))) : W p l e R s m args below meth c H locs cells slots Q (F0 m pc ls (.ref o :: rest)) :=
  va_get (ci := 2) (C := RX2) (T := TX2) (N := 18) (v := .ref (a 12)) hx hb hts (fun w h => List.mem_cons_of_mem _ (inX2 w h)) hown hK hP 0 rfl rfl 12 (by decide) (hts _ (List.mem_cons_of_mem _ mf_X2_49)) (fun _ h => h) rfl d kk
theorem sh_r12 (hx : p.tables.exec = Jvm.exec) (hb : c.code = cc) (hK : va_K D vwCl [(cI, .int)] s) (hP : va_P D vwCl (shW cI o a σ) H) {i : Int32} (j : Nat) (hi : i = nI j) (hj : j < 60) {v : Int32} (hv : σ 12 j = v) (d : decode cc pc = .ok (.iaload, 1)) (kk : W p l e R s m args below meth c H locs cells slots Q (F0 m (pc + 1) ls (.int v :: rest))) : W p l e R s m args below meth c H locs cells slots Q (F0 m pc ls (.int i :: .ref (a 12) :: rest)) := by
  subst hi; subst hv
  exact va_iald (n := 60) (f := σ 12) hx hb hK hP 9 0 rfl rfl (vp_in_nI hj (by decide)) d (by rw [nI_clamp (Nat.lt_trans hj (by decide))]; exact kk)
theorem sh_w12 (hx : p.tables.exec = Jvm.exec) (hb : c.code = cc) (hK : va_K D vwCl [(cI, .int)] s) (hP : va_P D vwCl (shW cI o a σ) H) (hD : shD o a) (hS : va_S (shA o a) H0 H locs) {i x : Int32} (j : Nat) (hi : i = nI j) (hj : j < 60) (d : decode cc pc = .ok (.iastore, 1)) (kk : ∀ (H1 : Heap) (locs1 : List Loc), va_P D vwCl (shW cI o a (shU σ 12 j x)) H1 → va_S (shA o a) H0 H1 locs1 → W p l e R s m args below meth c H1 locs1 cells slots Q (F0 m (pc + 1) ls rest)) : W p l e R s m args below meth c H locs cells slots Q (F0 m pc ls (.int x :: .int i :: .ref (a 12) :: rest)) := by
  subst hi
  refine va_iast (n := 60) (f := σ 12) hx hb hK hP (shD_of hD) hS 9 0 rfl rfl (vp_in_nI hj (by decide)) d (fun H1 locs1 h1 _ h3 => kk H1 locs1 ?_ h3)
  rw [nI_clamp (Nat.lt_trans hj (by decide))] at h1
  exact h1
theorem sh_g13 (hx : p.tables.exec = Jvm.exec) (hb : c.code = cc) (hts : ∀ w ∈ c0 :: W0, w.before args s = true) (hown : s.vm.findClass RX2 = some m.cls) (hK : va_K D vwCl [(cI, .int)] s) (hP : va_P D vwCl (shW cI o a σ) H) (d : decode cc pc = .ok (.getfield 52, 3)) (kk : W p l e R s m args below meth c H locs cells slots Q (F0 m (pc + 3) ls (.ref (a 13) :: rest))) : W p l e R s m args below meth c H locs cells slots Q (F0 m pc ls (.ref o :: rest)) :=
  va_get (ci := 2) (C := RX2) (T := TX2) (N := 18) (v := .ref (a 13)) hx hb hts (fun w h => List.mem_cons_of_mem _ (inX2 w h)) hown hK hP 0 rfl rfl 13 (by decide) (hts _ (List.mem_cons_of_mem _ mf_X2_52)) (fun _ h => h) rfl d kk
theorem sh_r13 (hx : p.tables.exec = Jvm.exec) (hb : c.code = cc) (hK : va_K D vwCl [(cI, .int)] s) (hP : va_P D vwCl (shW cI o a σ) H) {i : Int32} (j : Nat) (hi : i = nI j) (hj : j < 60) {v : Int32} (hv : σ 13 j = v) (d : decode cc pc = .ok (.iaload, 1)) (kk : W p l e R s m args below meth c H locs cells slots Q (F0 m (pc + 1) ls (.int v :: rest))) : W p l e R s m args below meth c H locs cells slots Q (F0 m pc ls (.int i :: .ref (a 13) :: rest)) := by
  subst hi; subst hv
  exact va_iald (n := 60) (f := σ 13) hx hb hK hP 10 0 rfl rfl (vp_in_nI hj (by decide)) d (by rw [nI_clamp (Nat.lt_trans hj (by decide))]; exact kk)
theorem sh_w13 (hx : p.tables.exec = Jvm.exec) (hb : c.code = cc) (hK : va_K D vwCl [(cI, .int)] s) (hP : va_P D vwCl (shW cI o a σ) H) (hD : shD o a) (hS : va_S (shA o a) H0 H locs) {i x : Int32} (j : Nat) (hi : i = nI j) (hj : j < 60) (d : decode cc pc = .ok (.iastore, 1)) (kk : ∀ (H1 : Heap) (locs1 : List Loc), va_P D vwCl (shW cI o a (shU σ 13 j x)) H1 → va_S (shA o a) H0 H1 locs1 → W p l e R s m args below meth c H1 locs1 cells slots Q (F0 m (pc + 1) ls rest)) : W p l e R s m args below meth c H locs cells slots Q (F0 m pc ls (.int x :: .int i :: .ref (a 13) :: rest)) := by
  subst hi
  refine va_iast (n := 60) (f := σ 13) hx hb hK hP (shD_of hD) hS 10 0 rfl rfl (vp_in_nI hj (by decide)) d (fun H1 locs1 h1 _ h3 => kk H1 locs1 ?_ h3)
  rw [nI_clamp (Nat.lt_trans hj (by decide))] at h1
  exact h1
theorem sh_g14 (hx : p.tables.exec = Jvm.exec) (hb : c.code = cc) (hts : ∀ w ∈ c0 :: W0, w.before args s = true) (hown : s.vm.findClass RX2 = some m.cls) (hK : va_K D vwCl [(cI, .int)] s) (hP : va_P D vwCl (shW cI o a σ) H) (d : decode cc pc = .ok (.getfield 55, 3)) (kk : W p l e R s m args below meth c H locs cells slots Q (F0 m (pc + 3) ls (.ref (a 14) :: rest))) : W p l e R s m args below meth c H locs cells slots Q (F0 m pc ls (.ref o :: rest)) :=
  va_get (ci := 2) (C := RX2) (T := TX2) (N := 18) (v := .ref (a 14)) hx hb hts (fun w h => List.mem_cons_of_mem _ (inX2 w h)) hown hK hP 0 rfl rfl 14 (by decide) (hts _ (List.mem_cons_of_mem _ mf_X2_55)) (fun _ h => h) rfl d kk
theorem sh_r14 (hx : p.tables.exec = Jvm.exec) (hb : c.code = cc) (hK : va_K D vwCl [(cI, .int)] s) (hP : va_P D vwCl (shW cI o a σ) H) {i : Int32} (j : Nat) (hi : i = nI j) (hj : j < 60) {v : Int32} (hv : σ 14 j = v) (d : decode cc pc = .ok (.iaload, 1)) (kk : W p l e R s m args below meth c H locs cells slots Q (F0 m (pc + 1) ls (.int v :: rest))) : W p l e R s m args below meth c H locs cells slots Q (F0 m pc ls (.int i :: .ref (a 14) :: rest)) := by
  subst hi; subst hv
  exact va_iald (n := 60) (f := σ 14) hx hb hK hP 11 0 rfl rfl (vp_in_nI hj (by decide)) d (by rw [nI_clamp (Nat.lt_trans hj (by decide))]; exact kk)
theorem sh_w14 (hx : p.tables.exec = Jvm.exec) (hb : c.code = cc) (hK : va_K D vwCl [(cI, .int)] s) (hP : va_P D vwCl (shW cI o a σ) H) (hD : shD o a) (hS : va_S (shA o a) H0 H locs) {i x : Int32} (j : Nat) (hi : i = nI j) (hj : j < 60) (d : decode cc pc = .ok (.iastore, 1)) (kk : ∀ (H1 : Heap) (locs1 : List Loc), va_P D vwCl (shW cI o a (shU σ 14 j x)) H1 → va_S (shA o a) H0 H1 locs1 → W p l e R s m args below meth c H1 locs1 cells slots Q (F0 m (pc + 1) ls rest)) : W p l e R s m args below meth c H locs cells slots Q (F0 m pc ls (.int x :: .int i :: .ref (a 14) :: rest)) := by
  subst hi
  refine va_iast (n := 60) (f := σ 14) hx hb hK hP (shD_of hD) hS 11 0 rfl rfl (vp_in_nI hj (by decide)) d (fun H1 locs1 h1 _ h3 => kk H1 locs1 ?_ h3)
  rw [nI_clamp (Nat.lt_trans hj (by decide))] at h1
  exact h1
theorem sh_g15 (hx : p.tables.exec = Jvm.exec) (hb : c.code = cc) (hts : ∀ w ∈ c0 :: W0, w.before args s = true) (hown : s.vm.findClass RX2 = some m.cls) (hK : va_K D vwCl [(cI, .int)] s) (hP : va_P D vwCl (shW cI o a σ) H) (d : decode cc pc = .ok (.getfield 58, 3)) (kk : W p l e R s m args below meth c H locs cells slots Q (F0 m (pc + 3) ls (.ref (a 15) :: rest))) : W p l e R s m args below meth c H locs cells slots Q (F0 m pc ls (.ref o :: rest)) :=
  va_get (ci := 2) (C := RX2) (T := TX2) (N := 18) (v := .ref (a 15)) hx hb hts (fun w h => List.mem_cons_of_mem _ (inX2 w h)) hown hK hP 0 rfl rfl 15 (by decide) (hts _ (List.mem_cons_of_mem _ mf_X2_58)) (fun _ h => h) rfl d kk
theorem sh_r15 (hx : p.tables.exec = Jvm.exec) (hb : c.code = cc) (hK : va_K D vwCl [(cI, .int)] s) (hP : va_P D vwCl (shW cI o a σ) H) {i : Int32} (j : Nat) (hi : i = nI j) (hj : j < 60) {v : Int32} (hv : σ 15 j = v) (d : decode cc pc = .ok (.iaload, 1)) (kk : W p l e R s m args below meth c H locs cells slots Q (F0 m (pc + 1) ls (.int v :: rest))) : W p l e R s m args below meth c H locs cells slots Q (F0 m pc ls (.int i :: .ref (a 15) :: rest)) := by
  subst hi; subst hv
  exact va_iald (n := 60) (f := σ 15) hx hb hK hP 12 0 rfl rfl (vp_in_nI hj (by decide)) d (by rw [nI_clamp (Nat.lt_trans hj (by decide))]; exact kk)
theorem sh_w15 (hx : p.tables.exec = Jvm.exec) (hb : c.code = cc) (hK : va_K D vwCl [(cI, .int)] s) (hP : va_P D vwCl (shW cI o a σ) H) (hD : shD o a) (hS : va_S (shA o a) H0 H locs) {i x : Int32} (j : Nat) (hi : i = nI j) (hj : j < 60) (d : decode cc pc = .ok (.iastore, 1)) (kk : ∀ (H1 : Heap) (locs1 : List Loc), va_P D vwCl (shW cI o a (shU σ 15 j x)) H1 → va_S (shA o a) H0 H1 locs1 → W p l e R s m args below meth c H1 locs1 cells slots Q (F0 m (pc + 1) ls rest)) : W p l e R s m args below meth c H locs cells slots Q (F0 m pc ls (.int x :: .int i :: .ref (a 15) :: rest)) := by
  subst hi
  refine va_iast (n := 60) (f := σ 15) hx hb hK hP (shD_of hD) hS 12 0 rfl rfl (vp_in_nI hj (by decide)) d (fun H1 locs1 h1 _ h3 => kk H1 locs1 ?_ h3)
  rw [nI_clamp (Nat.lt_trans hj (by decide))] at h1
  exact h1
theorem sh_g16 (hx : p.tables.exec = Jvm.exec) (hb : c.code = cc) (hts : ∀ w ∈ c0 :: W0, w.before args s = true) (hown : s.vm.findClass RX2 = some m.cls) (hK : va_K D vwCl [(cI, .int)] s) (hP : va_P D vwCl (shW cI o a σ) H) (d : decode cc pc = .ok (.getfield 61, 3)) (kk : W p l e R s m args below meth c H locs cells slots Q (F0 m (pc + 3) ls (.ref (a 16) :: rest))) : W p l e R s m args below meth c H locs cells slots Q (F0 m pc ls (.ref o :: rest)) :=
  va_get (ci := 2) (C := RX2) (T := TX2) (N := 18) (v := .ref (a 16)) hx hb hts (fun w h => List.mem_cons_of_mem _ (inX2 w h)) hown hK hP 0 rfl rfl 16 (by decide) (hts _ (List.mem_cons_of_mem _ mf_X2_61)) (fun _ h => h) rfl d kk
theorem sh_r16 (hx : p.tables.exec = Jvm.exec) (hb : c.code = cc) (hK : va_K D vwCl [(cI, .int)] s) (hP : va_P D vwCl (shW cI o a σ) H) {i : Int32} (j : Nat) (hi : i = nI j) (hj : j < 7) {v : Int32} (hv : σ 16 j = v) (d : decode cc pc = .ok (.iaload, 1)) (kk : W p l e R s m args below meth c H locs cells slots Q (F0 m (pc + 1) ls (.int v :: rest))) : W p l e R s m args below meth c H locs cells slots Q (F0 m pc ls (.int i :: .ref (a 16) :: rest)) := by
  subst hi; subst hv
  exact va_iald (n := 7) (f := σ 16) hx hb hK hP 13 0 rfl rfl (vp_in_nI hj (by decide)) d (by rw [nI_clamp (Nat.lt_trans hj (by decide))]; exact kk)
theorem sh_w16 (hx : p.tables.exec = Jvm.exec) (hb : c.code = cc) (hK : va_K D vwCl [(cI, .int)] s) (hP : va_P D vwCl (shW cI o a σ) H) (hD : shD o a) (hS : va_S (shA o a) H0 H locs) {i x : Int32} (j : Nat) (hi : i = nI j) (hj : j < 7) (d : decode cc pc = .ok (.iastore, 1)) (kk : ∀ (H1 : Heap) (locs1 : List Loc), va_P D vwCl (shW cI o a (shU σ 16 j x)) H1 → va_S (shA o a) H0 H1 locs1 → W p l e R s m args below meth c H1 locs1 cells slots Q (F0 m (pc + 1) ls rest)) : W p l e R s m args below meth c H locs cells slots Q (F0 m pc ls (.int x :: .int i :: .ref (a 16) :: rest)) := by
  subst hi
  refine va_iast (n := 7) (f := σ 16) hx hb hK hP (shD_of hD) hS 13 0 rfl rfl (vp_in_nI hj (by decide)) d (fun H1 locs1 h1 _ h3 => kk H1 locs1 ?_ h3)
  rw [nI_clamp (Nat.lt_trans hj (by decide))] at h1
  exact h1
theorem sh_g17 (hx : p.tables.exec = Jvm.exec) (hb : c.code = cc) (hts : ∀ w ∈ c0 :: W0, w.before args s = true) (hown : s.vm.findClass RX2 = some m.cls) (hK : va_K D vwCl [(cI, .int)] s) (hP : va_P D vwCl (shW cI o a σ) H) (d : decode cc pc = .ok (.getfield 64, 3)) (kk : W p l e R s m args below meth c H locs cells slots Q (F0 m (pc + 3) ls (.ref (a 17) :: rest))) : W p l e R s m args below meth c H locs cells slots Q (F0 m pc ls (.ref o :: rest)) :=
  va_get (ci := 2) (C := RX2) (T := TX2) (N := 18) (v := .ref (a 17)) hx hb hts (fun w h => List.mem_cons_of_mem _ (inX2 w h)) hown hK hP 0 rfl rfl 17 (by decide) (hts _ (List.mem_cons_of_mem _ mf_X2_64)) (fun _ h => h) rfl d kk
theorem sh_r17 (hx : p.tables.exec = Jvm.exec) (hb : c.code = cc) (hK : va_K D vwCl [(cI, .int)] s) (hP : va_P D vwCl (shW cI o a σ) H) {i : Int32} (j : Nat) (hi : i = nI j) (hj : j < 8) {v : Int32} (hv : σ 17 j = v) (d : decode cc pc = .ok (.iaload, 1)) (kk : W p l e R s m args below meth c H locs cells slots Q (F0 m (pc + 1) ls (.int v :: rest))) : W p l e R s m args below meth c H locs cells slots Q (F0 m pc ls (.int i :: .ref (a 17) :: rest)) := by
  subst hi; subst hv
  exact va_iald (n := 8) (f := σ 17) hx hb hK hP 14 0 rfl rfl (vp_in_nI hj (by decide)) d (by rw [nI_clamp (Nat.lt_trans hj (by decide))]; exact kk)
theorem sh_w17 (hx : p.tables.exec = Jvm.exec) (hb : c.code = cc) (hK : va_K D vwCl [(cI, .int)] s) (hP : va_P D vwCl (shW cI o a σ) H) (hD : shD o a) (hS : va_S (shA o a) H0 H locs) {i x : Int32} (j : Nat) (hi : i = nI j) (hj : j < 8) (d : decode cc pc = .ok (.iastore, 1)) (kk : ∀ (H1 : Heap) (locs1 : List Loc), va_P D vwCl (shW cI o a (shU σ 17 j x)) H1 → va_S (shA o a) H0 H1 locs1 → W p l e R s m args below meth c H1 locs1 cells slots Q (F0 m (pc + 1) ls rest)) : W p l e R s m args below meth c H locs cells slots Q (F0 m pc ls (.int x :: .int i :: .ref (a 17) :: rest)) := by
  subst hi
  refine va_iast (n := 8) (f := σ 17) hx hb hK hP (shD_of hD) hS 14 0 rfl rfl (vp_in_nI hj (by decide)) d (fun H1 locs1 h1 _ h3 => kk H1 locs1 ?_ h3)
  rw [nI_clamp (Nat.lt_trans hj (by decide))] at h1
  exact h1
end SH
/-! ===== world tx: an object of BookRental$OrderText and its rows ===== -/
def txW (cI : ClassId) (o : Nat) (a : Nat → Nat) (τ : Nat → Nat → Int32) : va_W :=
  [(o, .inr (1, [.ref (a 0), .int (τ 1 0), .int (τ 2 0), .int (τ 3 0), .int (τ 4 0), .int (τ 5 0), .int (τ 6 0)])), (a 0, .inl (cI, 100, .inl (τ 0)))]
def txA (o : Nat) (a : Nat → Nat) : Nat → Prop := fun q => q = o ∨ q = a 0
def txD (o : Nat) (a : Nat → Nat) : Prop := va_D (fun _ => True) (txW 0 o a (fun _ _ => 0))
theorem txD_of {cI : ClassId} {o : Nat} {a : Nat → Nat} {τ : Nat → Nat → Int32} (h : txD o a) : va_D (txA o a) (txW cI o a τ) := by
  have h1 : va_D (fun _ => True) (txW cI o a τ) := va_D_fst (ws := txW 0 o a (fun _ _ => 0)) rfl h
  refine ⟨h1.1, fun k q hq => ?_⟩
  match k, hq with
  | 0, hq => cases hq; exact Or.inl rfl
  | 1, hq => cases hq; exact Or.inr (rfl)
  | k + 2, hq => cases hq
def txP (D : va_G) (cI : ClassId) (o : Nat) (a : Nat → Nat) (τ : Nat → Nat → Int32) (U : State) : Prop := va_P D vwCl (txW cI o a τ) U.heap ∧ va_K D vwCl [(cI, .int)] U
def txM (D : va_G) (cI : ClassId) (o : Nat) (a : Nat → Nat) (τ : Nat → Nat → Int32) (U : State) : Prop := txP D cI o a τ U ∧ txD o a
theorem tx_blind {av : List Value} {D : va_G} {cI : ClassId} {o : Nat} {a : Nat → Nat} {τ : Nat → Nat → Int32} : FrameBlind (va_Pc av (txP D cI o a τ)) := fun b U g mk q => ⟨q.1, q.2.1, va_K.moved (u := U) (U := U.calling g mk b) (Vm.Alike.refl U.vm) q.2.2⟩
theorem tx_blindM {av : List Value} {D : va_G} {cI : ClassId} {o : Nat} {a : Nat → Nat} {τ : Nat → Nat → Int32} : FrameBlind (va_Pc av (txM D cI o a τ)) := fun b U g mk q => ⟨q.1, ⟨q.2.1.1, va_K.moved (u := U) (U := U.calling g mk b) (Vm.Alike.refl U.vm) q.2.1.2⟩, q.2.2⟩
/-- the end of a contract that changes the world: an int, or nothing, and the new state -/
def txQ (D : va_G) (cI : ClassId) (o : Nat) (a : Nat → Nat) (w : Int32 × (Nat → Nat → Int32)) : Array Value → State → Outcome → State → Prop := fun _ st oc t => oc = .returned (some (.int w.1)) ∧ txP D cI o a w.2 t ∧ va_F (txA o a) st t
def txV (D : va_G) (cI : ClassId) (o : Nat) (a : Nat → Nat) (w : Nat → Nat → Int32) : Array Value → State → Outcome → State → Prop := fun _ st oc t => oc = .returned none ∧ txP D cI o a w t ∧ va_F (txA o a) st t
section TX
variable {p : Program} {l : Launch} {e : Env} {R : Room} {s : State} {m : MethodId} {args : Array Value} {below : List Frame} {meth : Method} {c : Code} {H : Heap} {locs : List Loc} {cells slots : Nat} {Q : State → Prop} {cc : ByteArray} {maxL nL : Nat} {ret : Option FieldType} {own : String} {c0 : Cond} {pc : Nat} {ls : Array Slot} {rest st0 : List Value} {A0 : Nat → Prop} {H0 : Heap} {free : Addr → Prop} {D : va_G} {cI : ClassId} {o : Nat} {a : Nat → Nat} {τ : Nat → Nat → Int32}
/-- a call on the same object that changes nothing -/
theorem tx_call {y : MethodName} {bytes : ByteArray} {mL n index : Nat} {rt : Option FieldType} {ws : List Cond} {rm : Room} {As : List Value} {v : Int32} (hx : p.tables.exec = Jvm.exec) (hb : c.code = cc) (hml : c.maxLocals = nL) (hown : s.vm.findClass own = some m.cls) (hts : ∀ w ∈ c0 :: W0, w.before args s = true) (hK : va_K D vwCl [(cI, .int)] s) (hP : va_P D vwCl (txW cI o a τ) H)
    (hM : Met l y ws rm (va_Pc (.ref o :: As) (txP D cI o a τ)) (vp_Si (fun r => r = v)) 0 0 (fun _ => False)) (cw : CallW R s args own RX1 index y bytes mL rt ws rm 0 0 n)
    (hn : As.length = n) (hsize : ls.size = nL) (hst : st0 = As.reverse ++ .ref o :: rest) (hW : (rest.map fun v => v.category).sum ≤ 8) (d : decode cc pc = .ok (.invokevirtual index, 3)) (hc : cells ≤ R.cells) (hs : slots ≤ R.slots)
    (kk : W p l e R s m args below meth c H locs cells slots Q (F0 m (pc + 3) ls (.int v :: rest))) : W p l e R s m args below meth c H locs cells slots Q (F0 m pc ls st0) :=
  cl_Si (va_runV (As := As) (rest := rest) ⟨hx, hb, hml, hown, hts⟩ hM cw ⟨tx_blind, va_recv (ci := 1) (q0 := 0) hK hP rfl rfl, fun U hU hW => ⟨rfl, by rw [hU]; exact hP, va_K.moved hW.alike hK⟩⟩ rfl hn hsize hst (lv_room hW) d ⟨hc, hs⟩) kk
/-- a call on the same object that changes it, and answers an int -/
theorem tx_callM {y : MethodName} {bytes : ByteArray} {mL n index : Nat} {rt : Option FieldType} {ws : List Cond} {rm : Room} {As : List Value} {w : Int32 × (Nat → Nat → Int32)} (hx : p.tables.exec = Jvm.exec) (hb : c.code = cc) (hml : c.maxLocals = nL) (hown : s.vm.findClass own = some m.cls) (hts : ∀ w ∈ c0 :: W0, w.before args s = true) (hK : va_K D vwCl [(cI, .int)] s) (hP : va_P D vwCl (txW cI o a τ) H) (hD : txD o a) (hS : va_S (txA o a) H0 H locs)
    (hM : Met l y ws rm (va_Pc (.ref o :: As) (txM D cI o a τ)) (txQ D cI o a w) 0 0 (txA o a)) (cw : CallW R s args own RX1 index y bytes mL rt ws rm 0 0 n)
    (hn : As.length = n) (hsize : ls.size = nL) (hst : st0 = As.reverse ++ .ref o :: rest) (hW : (rest.map fun v => v.category).sum ≤ 8) (d : decode cc pc = .ok (.invokevirtual index, 3)) (hc : cells ≤ R.cells) (hs : slots ≤ R.slots)
    (kk : ∀ (H1 : Heap) (locs1 : List Loc), va_P D vwCl (txW cI o a w.2) H1 → va_S (txA o a) H0 H1 locs1 → W p l e R s m args below meth c H1 locs1 cells slots Q (F0 m (pc + 3) ls (.int w.1 :: rest))) : W p l e R s m args below meth c H locs cells slots Q (F0 m pc ls st0) := by
  have hr := va_runV (As := As) (rest := rest) (locs := locs) (slots := slots) (below := below) (meth := meth) (p := p) (e := e) ⟨hx, hb, hml, hown, hts⟩ hM cw ⟨tx_blindM, va_recv (ci := 1) (q0 := 0) hK hP rfl rfl, fun U hU hW => ⟨rfl, ⟨by rw [hU]; exact hP, va_K.moved hW.alike hK⟩, hD⟩⟩ (g := F0 m pc ls st0) rfl hn hsize hst (lv_room hW) d ⟨hc, hs⟩
  intro T hT X
  obtain ⟨v1, st₀, t, T', L, h0, X', hL, e1, e2, ⟨hv, hp, hF⟩, st⟩ := hr T hT X
  cases hv
  obtain ⟨t2, a1, b1⟩ := kk T'.heap (locs ++ L) (by rw [e1]; exact hp.1) ⟨Nat.le_trans hS.1 (by rw [e1, ← h0]; exact hF.1), fun q h1 h2 => by rw [e1, hF.2 q (by rw [h0]; exact Nat.lt_of_lt_of_le h1 hS.1) h2, h0]; exact hS.2.1 q h1 h2, fun q hq => by
      rcases List.mem_append.mp hq with h | h
      · exact hS.2.2 q h
      · exact hL q h⟩ T' rfl X'
  exact ⟨t2, st t2 a1, b1⟩
theorem tx_callV {y : MethodName} {bytes : ByteArray} {mL n index : Nat} {rt : Option FieldType} {ws : List Cond} {rm : Room} {As : List Value} {w : Nat → Nat → Int32} (hx : p.tables.exec = Jvm.exec) (hb : c.code = cc) (hml : c.maxLocals = nL) (hown : s.vm.findClass own = some m.cls) (hts : ∀ w ∈ c0 :: W0, w.before args s = true) (hK : va_K D vwCl [(cI, .int)] s) (hP : va_P D vwCl (txW cI o a τ) H) (hD : txD o a) (hS : va_S (txA o a) H0 H locs)
    (hM : Met l y ws rm (va_Pc (.ref o :: As) (txM D cI o a τ)) (txV D cI o a w) 0 0 (txA o a)) (cw : CallW R s args own RX1 index y bytes mL rt ws rm 0 0 n)
    (hn : As.length = n) (hsize : ls.size = nL) (hst : st0 = As.reverse ++ .ref o :: rest) (hW : (rest.map fun v => v.category).sum ≤ 8) (d : decode cc pc = .ok (.invokevirtual index, 3)) (hc : cells ≤ R.cells) (hs : slots ≤ R.slots)
    (kk : ∀ (H1 : Heap) (locs1 : List Loc), va_P D vwCl (txW cI o a w) H1 → va_S (txA o a) H0 H1 locs1 → W p l e R s m args below meth c H1 locs1 cells slots Q (F0 m (pc + 3) ls rest)) : W p l e R s m args below meth c H locs cells slots Q (F0 m pc ls st0) := by
  have hr := va_runV (As := As) (rest := rest) (locs := locs) (slots := slots) (below := below) (meth := meth) (p := p) (e := e) ⟨hx, hb, hml, hown, hts⟩ hM cw ⟨tx_blindM, va_recv (ci := 1) (q0 := 0) hK hP rfl rfl, fun U hU hW => ⟨rfl, ⟨by rw [hU]; exact hP, va_K.moved hW.alike hK⟩, hD⟩⟩ (g := F0 m pc ls st0) rfl hn hsize hst (lv_room hW) d ⟨hc, hs⟩
  intro T hT X
  obtain ⟨v1, st₀, t, T', L, h0, X', hL, e1, e2, ⟨hv, hp, hF⟩, st⟩ := hr T hT X
  cases hv
  obtain ⟨t2, a1, b1⟩ := kk T'.heap (locs ++ L) (by rw [e1]; exact hp.1) ⟨Nat.le_trans hS.1 (by rw [e1, ← h0]; exact hF.1), fun q h1 h2 => by rw [e1, hF.2 q (by rw [h0]; exact Nat.lt_of_lt_of_le h1 hS.1) h2, h0]; exact hS.2.1 q h1 h2, fun q hq => by
      rcases List.mem_append.mp hq with h | h
      · exact hS.2.2 q h
      · exact hL q h⟩ T' rfl X'
  exact ⟨t2, st t2 a1, b1⟩
theorem tx_finM {w : Int32 × (Nat → Nat → Int32)} {v : Int32} (hx : p.tables.exec = Jvm.exec) (hb : c.code = cc) (hr : meth.sig.returnType = some .int) (hlk : meth.locks = false) (hK : va_K D vwCl [(cI, .int)] s) (hP : va_P D vwCl (txW cI o a τ) H) (hS : va_S (txA o a) s.heap H locs) (h : (v, τ) = w) (d : decode cc pc = .ok (.ireturn, 1)) :
    W p l e R s m args below meth c H locs 0 0 (MQ below (txQ D cI o a w) args s 0 0 (txA o a)) (F0 m pc ls [.int v]) := by
  subst h
  exact W.iret hx hb hr (fun t ht hW => ⟨rfl, ⟨by rw [ht]; exact hP, va_K.moved hW.alike hK⟩, hS.F ht⟩) hS.2.2 d hlk
theorem tx_finMz {w : Int32 × (Nat → Nat → Int32)} {v : Int32} (hx : p.tables.exec = Jvm.exec) (hb : c.code = cc) (hr : meth.sig.returnType = some .boolean) (hlk : meth.locks = false) (hK : va_K D vwCl [(cI, .int)] s) (hP : va_P D vwCl (txW cI o a τ) H) (hS : va_S (txA o a) s.heap H locs) (hz : v = 0 ∨ v = 1) (h : (v, τ) = w) (d : decode cc pc = .ok (.ireturn, 1)) :
    W p l e R s m args below meth c H locs 0 0 (MQ below (txQ D cI o a w) args s 0 0 (txA o a)) (F0 m pc ls [.int v]) := by
  subst h
  exact W.zret hx hb hr (nar_z hz) (fun t ht hW => ⟨rfl, ⟨by rw [ht]; exact hP, va_K.moved hW.alike hK⟩, hS.F ht⟩) hS.2.2 d hlk
theorem tx_finV {w : Nat → Nat → Int32} (hx : p.tables.exec = Jvm.exec) (hb : c.code = cc) (hr : meth.sig.returnType = none) (hlk : meth.locks = false) (hK : va_K D vwCl [(cI, .int)] s) (hP : va_P D vwCl (txW cI o a τ) H) (hS : va_S (txA o a) s.heap H locs) (h : τ = w) (d : decode cc pc = .ok (.return_, 1)) :
    W p l e R s m args below meth c H locs 0 0 (MQ below (txV D cI o a w) args s 0 0 (txA o a)) (F0 m pc ls []) := by
  subst h
  exact W.vret hx hb hr (fun t ht hW => ⟨rfl, ⟨by rw [ht]; exact hP, va_K.moved hW.alike hK⟩, hS.F ht⟩) hS.2.2 d hlk
theorem tx_g0 (hx : p.tables.exec = Jvm.exec) (hb : c.code = cc) (hts : ∀ w ∈ c0 :: W0, w.before args s = true) (hown : s.vm.findClass RX1 = some m.cls) (hK : va_K D vwCl [(cI, .int)] s) (hP : va_P D vwCl (txW cI o a τ) H) (d : decode cc pc = .ok (.getfield 11, 3)) (kk : W p l e R s m args below meth c H locs cells slots Q (F0 m (pc + 3) ls (.ref (a 0) :: rest))) : W p l e R s m args below meth c H locs cells slots Q (F0 m pc ls (.ref o :: rest)) :=
  va_get (ci := 1) (C := RX1) (T := TX1) (N := 7) (v := .ref (a 0)) hx hb hts (fun w h => List.mem_cons_of_mem _ (inX1 w h)) hown hK hP 0 rfl rfl 0 (by decide) (hts _ (List.mem_cons_of_mem _ mf_X1_11)) (fun _ h => h) rfl d kk
theorem tx_r0 (hx : p.tables.exec = Jvm.exec) (hb : c.code = cc) (hK : va_K D vwCl [(cI, .int)] s) (hP : va_P D vwCl (txW cI o a τ) H) {i : Int32} (j : Nat) (hi : i = nI j) (hj : j < 100) {v : Int32} (hv : τ 0 j = v) (d : decode cc pc = .ok (.iaload, 1)) (kk : W p l e R s m args below meth c H locs cells slots Q (F0 m (pc + 1) ls (.int v :: rest))) : W p l e R s m args below meth c H locs cells slots Q (F0 m pc ls (.int i :: .ref (a 0) :: rest)) := by
  subst hi; subst hv
  exact va_iald (n := 100) (f := τ 0) hx hb hK hP 1 0 rfl rfl (vp_in_nI hj (by decide)) d (by rw [nI_clamp (Nat.lt_trans hj (by decide))]; exact kk)
theorem tx_w0 (hx : p.tables.exec = Jvm.exec) (hb : c.code = cc) (hK : va_K D vwCl [(cI, .int)] s) (hP : va_P D vwCl (txW cI o a τ) H) (hD : txD o a) (hS : va_S (txA o a) H0 H locs) {i x : Int32} (j : Nat) (hi : i = nI j) (hj : j < 100) (d : decode cc pc = .ok (.iastore, 1)) (kk : ∀ (H1 : Heap) (locs1 : List Loc), va_P D vwCl (txW cI o a (shU τ 0 j x)) H1 → va_S (txA o a) H0 H1 locs1 → W p l e R s m args below meth c H1 locs1 cells slots Q (F0 m (pc + 1) ls rest)) : W p l e R s m args below meth c H locs cells slots Q (F0 m pc ls (.int x :: .int i :: .ref (a 0) :: rest)) := by
  subst hi
  refine va_iast (n := 100) (f := τ 0) hx hb hK hP (txD_of hD) hS 1 0 rfl rfl (vp_in_nI hj (by decide)) d (fun H1 locs1 h1 _ h3 => kk H1 locs1 ?_ h3)
  rw [nI_clamp (Nat.lt_trans hj (by decide))] at h1
  exact h1
theorem tx_g1 (hx : p.tables.exec = Jvm.exec) (hb : c.code = cc) (hts : ∀ w ∈ c0 :: W0, w.before args s = true) (hown : s.vm.findClass RX1 = some m.cls) (hK : va_K D vwCl [(cI, .int)] s) (hP : va_P D vwCl (txW cI o a τ) H) {v : Int32} (hv : τ 1 0 = v) (d : decode cc pc = .ok (.getfield 15, 3)) (kk : W p l e R s m args below meth c H locs cells slots Q (F0 m (pc + 3) ls (.int v :: rest))) : W p l e R s m args below meth c H locs cells slots Q (F0 m pc ls (.ref o :: rest)) := by
  subst hv
  exact va_get (ci := 1) (C := RX1) (T := TX1) (N := 7) (v := .int (τ 1 0)) hx hb hts (fun w h => List.mem_cons_of_mem _ (inX1 w h)) hown hK hP 0 rfl rfl 1 (by decide) (hts _ (List.mem_cons_of_mem _ mf_X1_15)) (fun _ h => h) rfl d kk
theorem tx_p1 (hx : p.tables.exec = Jvm.exec) (hb : c.code = cc) (hts : ∀ w ∈ c0 :: W0, w.before args s = true) (hown : s.vm.findClass RX1 = some m.cls) (hK : va_K D vwCl [(cI, .int)] s) (hP : va_P D vwCl (txW cI o a τ) H) (hD : txD o a) (hS : va_S (txA o a) H0 H locs) {x : Int32} (d : decode cc pc = .ok (.putfield 15, 3)) (kk : ∀ (H1 : Heap) (locs1 : List Loc), va_P D vwCl (txW cI o a (shS τ 1 x)) H1 → va_S (txA o a) H0 H1 locs1 → W p l e R s m args below meth c H1 locs1 cells slots Q (F0 m (pc + 3) ls rest)) : W p l e R s m args below meth c H locs cells slots Q (F0 m pc ls (.int x :: .ref o :: rest)) :=
  va_put (ci := 1) (C := RX1) (T := TX1) (N := 7) (v := .int x) (ty := .int) hx hb hts (fun w h => List.mem_cons_of_mem _ (inX1 w h)) tyX1 tyX1_ok nmX1 hown hK hP (txD_of hD) hS 0 rfl rfl 1 (by decide) (hts _ (List.mem_cons_of_mem _ mf_X1_15)) (fun _ h => h) rfl (by decide +kernel) rfl rfl (Nat.le_of_ble_eq_true rfl) d (fun H1 locs1 h1 _ h3 => kk H1 locs1 h1 h3)
theorem tx_g2 (hx : p.tables.exec = Jvm.exec) (hb : c.code = cc) (hts : ∀ w ∈ c0 :: W0, w.before args s = true) (hown : s.vm.findClass RX1 = some m.cls) (hK : va_K D vwCl [(cI, .int)] s) (hP : va_P D vwCl (txW cI o a τ) H) {v : Int32} (hv : τ 2 0 = v) (d : decode cc pc = .ok (.getfield 19, 3)) (kk : W p l e R s m args below meth c H locs cells slots Q (F0 m (pc + 3) ls (.int v :: rest))) : W p l e R s m args below meth c H locs cells slots Q (F0 m pc ls (.ref o :: rest)) := by
  subst hv
  exact va_get (ci := 1) (C := RX1) (T := TX1) (N := 7) (v := .int (τ 2 0)) hx hb hts (fun w h => List.mem_cons_of_mem _ (inX1 w h)) hown hK hP 0 rfl rfl 2 (by decide) (hts _ (List.mem_cons_of_mem _ mf_X1_19)) (fun _ h => h) rfl d kk
theorem tx_p2 (hx : p.tables.exec = Jvm.exec) (hb : c.code = cc) (hts : ∀ w ∈ c0 :: W0, w.before args s = true) (hown : s.vm.findClass RX1 = some m.cls) (hK : va_K D vwCl [(cI, .int)] s) (hP : va_P D vwCl (txW cI o a τ) H) (hD : txD o a) (hS : va_S (txA o a) H0 H locs) {x : Int32} (d : decode cc pc = .ok (.putfield 19, 3)) (kk : ∀ (H1 : Heap) (locs1 : List Loc), va_P D vwCl (txW cI o a (shS τ 2 x)) H1 → va_S (txA o a) H0 H1 locs1 → W p l e R s m args below meth c H1 locs1 cells slots Q (F0 m (pc + 3) ls rest)) : W p l e R s m args below meth c H locs cells slots Q (F0 m pc ls (.int x :: .ref o :: rest)) :=
  va_put (ci := 1) (C := RX1) (T := TX1) (N := 7) (v := .int x) (ty := .int) hx hb hts (fun w h => List.mem_cons_of_mem _ (inX1 w h)) tyX1 tyX1_ok nmX1 hown hK hP (txD_of hD) hS 0 rfl rfl 2 (by decide) (hts _ (List.mem_cons_of_mem _ mf_X1_19)) (fun _ h => h) rfl (by decide +kernel) rfl rfl (Nat.le_of_ble_eq_true rfl) d (fun H1 locs1 h1 _ h3 => kk H1 locs1 h1 h3)
theorem tx_g3 (hx : p.tables.exec = Jvm.exec) (hb : c.code = cc) (hts : ∀ w ∈ c0 :: W0, w.before args s = true) (hown : s.vm.findClass RX1 = some m.cls) (hK : va_K D vwCl [(cI, .int)] s) (hP : va_P D vwCl (txW cI o a τ) H) {v : Int32} (hv : τ 3 0 = v) (d : decode cc pc = .ok (.getfield 22, 3)) (kk : W p l e R s m args below meth c H locs cells slots Q (F0 m (pc + 3) ls (.int v :: rest))) : W p l e R s m args below meth c H locs cells slots Q (F0 m pc ls (.ref o :: rest)) := by
  subst hv
  exact va_get (ci := 1) (C := RX1) (T := TX1) (N := 7) (v := .int (τ 3 0)) hx hb hts (fun w h => List.mem_cons_of_mem _ (inX1 w h)) hown hK hP 0 rfl rfl 3 (by decide) (hts _ (List.mem_cons_of_mem _ mf_X1_22)) (fun _ h => h) rfl d kk
theorem tx_p3 (hx : p.tables.exec = Jvm.exec) (hb : c.code = cc) (hts : ∀ w ∈ c0 :: W0, w.before args s = true) (hown : s.vm.findClass RX1 = some m.cls) (hK : va_K D vwCl [(cI, .int)] s) (hP : va_P D vwCl (txW cI o a τ) H) (hD : txD o a) (hS : va_S (txA o a) H0 H locs) {x : Int32} (hz : x = 0 ∨ x = 1) (d : decode cc pc = .ok (.putfield 22, 3)) (kk : ∀ (H1 : Heap) (locs1 : List Loc), va_P D vwCl (txW cI o a (shS τ 3 x)) H1 → va_S (txA o a) H0 H1 locs1 → W p l e R s m args below meth c H1 locs1 cells slots Q (F0 m (pc + 3) ls rest)) : W p l e R s m args below meth c H locs cells slots Q (F0 m pc ls (.int x :: .ref o :: rest)) :=
  va_put (ci := 1) (C := RX1) (T := TX1) (N := 7) (v := .int x) (ty := .boolean) hx hb hts (fun w h => List.mem_cons_of_mem _ (inX1 w h)) tyX1 tyX1_ok nmX1 hown hK hP (txD_of hD) hS 0 rfl rfl 3 (by decide) (hts _ (List.mem_cons_of_mem _ mf_X1_22)) (fun _ h => h) rfl (by decide +kernel) (nar_z hz) (by rcases hz with rfl | rfl <;> decide) (Nat.le_of_ble_eq_true rfl) d (fun H1 locs1 h1 _ h3 => kk H1 locs1 h1 h3)
theorem tx_g4 (hx : p.tables.exec = Jvm.exec) (hb : c.code = cc) (hts : ∀ w ∈ c0 :: W0, w.before args s = true) (hown : s.vm.findClass RX1 = some m.cls) (hK : va_K D vwCl [(cI, .int)] s) (hP : va_P D vwCl (txW cI o a τ) H) {v : Int32} (hv : τ 4 0 = v) (d : decode cc pc = .ok (.getfield 26, 3)) (kk : W p l e R s m args below meth c H locs cells slots Q (F0 m (pc + 3) ls (.int v :: rest))) : W p l e R s m args below meth c H locs cells slots Q (F0 m pc ls (.ref o :: rest)) := by
  subst hv
  exact va_get (ci := 1) (C := RX1) (T := TX1) (N := 7) (v := .int (τ 4 0)) hx hb hts (fun w h => List.mem_cons_of_mem _ (inX1 w h)) hown hK hP 0 rfl rfl 4 (by decide) (hts _ (List.mem_cons_of_mem _ mf_X1_26)) (fun _ h => h) rfl d kk
theorem tx_p4 (hx : p.tables.exec = Jvm.exec) (hb : c.code = cc) (hts : ∀ w ∈ c0 :: W0, w.before args s = true) (hown : s.vm.findClass RX1 = some m.cls) (hK : va_K D vwCl [(cI, .int)] s) (hP : va_P D vwCl (txW cI o a τ) H) (hD : txD o a) (hS : va_S (txA o a) H0 H locs) {x : Int32} (d : decode cc pc = .ok (.putfield 26, 3)) (kk : ∀ (H1 : Heap) (locs1 : List Loc), va_P D vwCl (txW cI o a (shS τ 4 x)) H1 → va_S (txA o a) H0 H1 locs1 → W p l e R s m args below meth c H1 locs1 cells slots Q (F0 m (pc + 3) ls rest)) : W p l e R s m args below meth c H locs cells slots Q (F0 m pc ls (.int x :: .ref o :: rest)) :=
  va_put (ci := 1) (C := RX1) (T := TX1) (N := 7) (v := .int x) (ty := .int) hx hb hts (fun w h => List.mem_cons_of_mem _ (inX1 w h)) tyX1 tyX1_ok nmX1 hown hK hP (txD_of hD) hS 0 rfl rfl 4 (by decide) (hts _ (List.mem_cons_of_mem _ mf_X1_26)) (fun _ h => h) rfl (by decide +kernel) rfl rfl (Nat.le_of_ble_eq_true rfl) d (fun H1 locs1 h1 _ h3 => kk H1 locs1 h1 h3)
theorem tx_g5 (hx : p.tables.exec = Jvm.exec) (hb : c.code = cc) (hts : ∀ w ∈ c0 :: W0, w.before args s = true) (hown : s.vm.findClass RX1 = some m.cls) (hK : va_K D vwCl [(cI, .int)] s) (hP : va_P D vwCl (txW cI o a τ) H) {v : Int32} (hv : τ 5 0 = v) (d : decode cc pc = .ok (.getfield 29, 3)) (kk : W p l e R s m args below meth c H locs cells slots Q (F0 m (pc + 3) ls (.int v :: rest))) : W p l e R s m args below meth c H locs cells slots Q (F0 m pc ls (.ref o :: rest)) := by
  subst hv
  exact va_get (ci := 1) (C := RX1) (T := TX1) (N := 7) (v := .int (τ 5 0)) hx hb hts (fun w h => List.mem_cons_of_mem _ (inX1 w h)) hown hK hP 0 rfl rfl 5 (by decide) (hts _ (List.mem_cons_of_mem _ mf_X1_29)) (fun _ h => h) rfl d kk
theorem tx_p5 (hx : p.tables.exec = Jvm.exec) (hb : c.code = cc) (hts : ∀ w ∈ c0 :: W0, w.before args s = true) (hown : s.vm.findClass RX1 = some m.cls) (hK : va_K D vwCl [(cI, .int)] s) (hP : va_P D vwCl (txW cI o a τ) H) (hD : txD o a) (hS : va_S (txA o a) H0 H locs) {x : Int32} (d : decode cc pc = .ok (.putfield 29, 3)) (kk : ∀ (H1 : Heap) (locs1 : List Loc), va_P D vwCl (txW cI o a (shS τ 5 x)) H1 → va_S (txA o a) H0 H1 locs1 → W p l e R s m args below meth c H1 locs1 cells slots Q (F0 m (pc + 3) ls rest)) : W p l e R s m args below meth c H locs cells slots Q (F0 m pc ls (.int x :: .ref o :: rest)) :=
  va_put (ci := 1) (C := RX1) (T := TX1) (N := 7) (v := .int x) (ty := .int) hx hb hts (fun w h => List.mem_cons_of_mem _ (inX1 w h)) tyX1 tyX1_ok nmX1 hown hK hP (txD_of hD) hS 0 rfl rfl 5 (by decide) (hts _ (List.mem_cons_of_mem _ mf_X1_29)) (fun _ h => h) rfl (by decide +kernel) rfl rfl (Nat.le_of_ble_eq_true rfl) d (fun H1 locs1 h1 _ h3 => kk H1 locs1 h1 h3)
theorem tx_g6 (hx : p.tables.exec = Jvm.exec) (hb : c.code = cc) (hts : ∀ w ∈ c0 :: W0, w.before args s = true) (hown : s.vm.findClass RX1 = some m.cls) (hK : va_K D vwCl [(cI, .int)] s) (hP : va_P D vwCl (txW cI o a τ) H) {v : Int32} (hv : τ 6 0 = v) (d : decode cc pc = .ok (.getfield 32, 3)) (kk : W p l e R s m args below meth c H locs cells slots Q (F0 m (pc + 3) ls (.int v :: rest))) : W p l e R s m args below meth c H locs cells slots Q (F0 m pc ls (.ref o :: rest)) := by
  subst hv
  exact va_get (ci := 1) (C := RX1) (T := TX1) (N := 7) (v := .int (τ 6 0)) hx hb hts (fun w h => List.mem_cons_of_mem _ (inX1 w h)) hown hK hP 0 rfl rfl 6 (by decide) (hts _ (List.mem_cons_of_mem _ mf_X1_32)) (fun _ h => h) rfl d kk
theorem tx_p6 (hx : p.tables.exec = Jvm.exec) (hb : c.code = cc) (hts : ∀ w ∈ c0 :: W0, w.before args s = true) (hown : s.vm.findClass RX1 = some m.cls) (hK : va_K D vwCl [(cI, .int)] s) (hP : va_P D vwCl (txW cI o a τ) H) (hD : txD o a) (hS : va_S (txA o a) H0 H locs) {x : Int32} (d : decode cc pc = .ok (.putfield 32, 3)) (kk : ∀ (H1 : Heap) (locs1 : List Loc), va_P D vwCl (txW cI o a (shS τ 6 x)) H1 → va_S (txA o a) H0 H1 locs1 → W p l e R s m args below meth c H1 locs1 cells slots Q (F0 m (pc + 3) ls rest)) : W p l e R s m args below meth c H locs cells slots Q (F0 m pc ls (.int x :: .ref o :: rest)) :=
  va_put (ci := 1) (C := RX1) (T := TX1) (N := 7) (v := .int x) (ty := .int) hx hb hts (fun w h => List.mem_cons_of_mem _ (inX1 w h)) tyX1 tyX1_ok nmX1 hown hK hP (txD_of hD) hS 0 rfl rfl 6 (by decide) (hts _ (List.mem_cons_of_mem _ mf_X1_32)) (fun _ h => h) rfl (by decide +kernel) rfl rfl (Nat.le_of_ble_eq_true rfl) d (fun H1 locs1 h1 _ h3 => kk H1 locs1 h1 h3)
end TX

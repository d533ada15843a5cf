/-! ===== a new object and its constructor, beside any world ===== -/
def iniN {α : Type} (D : va_G) (w : α → va_W) (o sz : Nat) : Array Value → State → Outcome → State → Prop := fun _ st oc t => oc = .returned none ∧ ∃ x : α, va_P D vwCl (w x) t.heap ∧ va_D (inA o sz) (w x) ∧ va_F (inA o sz) st t
theorem app_key {ws w2 : va_W} {k : Nat} {p : Nat × va_E} (hk : (ws ++ w2)[k]? = some p) : (k < ws.length ∧ ws[k]? = some p) ∨ (ws.length ≤ k ∧ w2[k - ws.length]? = some p) := by
  by_cases c : k < ws.length
  · rw [List.getElem?_append_left c] at hk; exact Or.inl ⟨c, hk⟩
  · rw [List.getElem?_append_right (by omega)] at hk; exact Or.inr ⟨by omega, hk⟩
theorem app_l {ws w2 : va_W} {k : Nat} {p : Nat × va_E} (hk : ws[k]? = some p) : (ws ++ w2)[k]? = some p := by
  rw [List.getElem?_append_left (List.getElem?_eq_some_iff.mp hk).1]; exact hk
theorem app_r {ws : va_W} {p : Nat × va_E} : (ws ++ [p])[ws.length]? = some p := by
  rw [List.getElem?_append_right (Nat.le_refl _), Nat.sub_self]; rfl
theorem D_app {A B : Nat → Prop} {ws w2 : va_W} (h1 : va_D A ws) (h2 : va_D B w2) (hBA : ∀ q, B q → A q) (hdis : ∀ (k : Nat) (p : Nat × va_E), ws[k]? = some p → ¬ B p.1) : va_D A (ws ++ w2) := by
  refine ⟨fun i j p q hi hj e => ?_, fun k q hk => ?_⟩
  · rcases app_key hi with ⟨ci, hi⟩ | ⟨ci, hi⟩ <;> rcases app_key hj with ⟨cj, hj⟩ | ⟨cj, hj⟩
    · exact h1.1 i j p q hi hj e
    · exact absurd (show B p.1 by rw [e]; exact h2.2 _ q hj) (hdis i p hi)
    · exact absurd (show B q.1 by rw [← e]; exact h2.2 _ p hi) (hdis j q hj)
    · have := h2.1 _ _ p q hi hj e; omega
  · rcases app_key hk with ⟨_, h⟩ | ⟨_, h⟩
    · exact h1.2 k q h
    · exact hBA _ (h2.2 _ q h)
theorem fsX2 : ∀ j, j < 18 → defaultValue (tyX2 j) = vp_V in_X2 j := by
  intro j hj
  rcases (show j = 0 ∨ j = 1 ∨ j = 2 ∨ j = 3 ∨ j = 4 ∨ j = 5 ∨ j = 6 ∨ j = 7 ∨ j = 8 ∨ j = 9 ∨ j = 10 ∨ j = 11 ∨ j = 12 ∨ j = 13 ∨ j = 14 ∨ j = 15 ∨ j = 16 ∨ j = 17 by omega) with rfl | rfl | rfl | rfl | rfl | rfl | rfl | rfl | rfl | rfl | rfl | rfl | rfl | rfl | rfl | rfl | rfl | rfl <;> rfl
theorem fsX1 : ∀ j, j < 7 → defaultValue (tyX1 j) = vp_V in_X1 j := by
  intro j hj
  rcases (show j = 0 ∨ j = 1 ∨ j = 2 ∨ j = 3 ∨ j = 4 ∨ j = 5 ∨ j = 6 by omega) with rfl | rfl | rfl | rfl | rfl | rfl | rfl <;> rfl
section MKO
variable {p : Program} {l : Launch} {e : Env} {R : Room} {s : State} {m : MethodId} {args : Array Value} {below : List Frame} {meth : Method} {c : Code} {H : Heap} {locs : List Loc} {cells slots : Nat} {Q : State → Prop} {cc : ByteArray} {nL : Nat} {own : String} {c0 : Cond} {pc : Nat} {ls : Array Slot} {rest : List Value} {H0 : Heap} {D : va_G} {cI : ClassId} {A : Nat → Prop} {ws : va_W} {tys : List (ClassId × FieldType)}
theorem iniCall {α : Type} (w : α → va_W) {y : MethodName} {bytes : ByteArray} {mL index mc ms q : Nat} {ev : va_E} {wsC : List Cond} {rm : Room} {Pc : Array Value → State → Prop} (hx : p.tables.exec = Jvm.exec) (hb : c.code = cc) (hml : c.maxLocals = nL) (hown : s.vm.findClass own = some m.cls) (hts : ∀ w ∈ c0 :: W0, w.before args s = true)
    (hM : Met l y wsC rm Pc (iniN D w q H.size) mc ms (inA q H.size)) (cw : CallB R s args own index y bytes mL none wsC rm mc ms 0 ∧ y.name = "<init>" ∧ (Cond.instanceMethod y).before args s = true) (hp : PreS s H Pc [.ref q])
    (hP : va_P D vwCl (ws ++ [(q, ev)]) H) (hD : va_D A (ws ++ [(q, ev)])) (hS : va_S A H0 H locs) (hA : ∀ x, H0.size ≤ x → A x)
    (hsize : ls.size = nL) (hW : (rest.map fun v => v.category).sum ≤ 8) (d : decode cc pc = .ok (.invokespecial index, 3)) (hc : cells + mc ≤ R.cells) (hs : slots + ms ≤ R.slots)
    (kk : ∀ (x : α) (H1 : Heap) (locs1 : List Loc), va_P D vwCl (ws ++ w x) H1 → va_D A (ws ++ w x) → va_S A H0 H1 locs1 → W p l e R s m args below meth c H1 locs1 (cells + mc) (slots + ms) Q (F0 m (pc + 3) ls rest)) : W p l e R s m args below meth c H locs cells slots Q (F0 m pc ls (.ref q :: rest)) := by
  have hr := va_runI (As := []) (rest := rest) (locs := locs) (below := below) (meth := meth) (p := p) (e := e) ⟨hx, hb, hml, hown, hts⟩ hM cw hp (g := F0 m pc ls (.ref q :: rest)) rfl rfl hsize rfl (lv_room hW) d ⟨hc, hs⟩
  intro T hT X
  obtain ⟨v1, st₀, t, T', L, h0, X', hL, e1, e2, ⟨hv, x, hp1, hd1, hF⟩, st⟩ := hr T hT X
  cases hv
  have hq : A q := hD.2 _ (q, ev) app_r
  have hB : ∀ z, inA q H.size z → A z := fun z h => by
    rcases h with h | h
    · rw [h]; exact hq
    · exact hA z (Nat.le_trans hS.1 h)
  have hfr : ∀ z, z < H.size → ¬ inA q H.size z → T'.heap[z]? = H[z]? := fun z h1 h2 => by rw [e1, hF.2 z (by rw [h0]; exact h1) h2, h0]
  have hout : ∀ (k : Nat) (x : Nat × va_E), ws[k]? = some x → ¬ inA q H.size x.1 := fun k x hk hi => by
    have hk2 : (ws ++ [(q, ev)])[k]? = some x := app_l hk
    rcases hi with hi | hi
    · have := hD.1 k ws.length x (q, ev) hk2 app_r hi
      have := (List.getElem?_eq_some_iff.mp hk).1
      omega
    · have := va_P_lt hP hk2
      omega
  have hPw : va_P D vwCl ws H := fun k x hk => hP k x (app_l hk)
  have hDw : va_D A ws := ⟨fun i j a b hi hj => hD.1 i j a b (app_l hi) (app_l hj), fun k x hk => hD.2 k x (app_l hk)⟩
  have P' : va_P D vwCl (ws ++ w x) T'.heap := (keepP hPw hout hfr).app (by rw [e1]; exact hp1)
  have S' : va_S A H0 T'.heap (locs ++ L) := ⟨Nat.le_trans hS.1 (by rw [e1, ← h0]; exact hF.1), fun z h1 h2 => by rw [hfr z (Nat.lt_of_lt_of_le h1 hS.1) (fun h => h2 (hB z h))]; exact hS.2.1 z h1 h2, fun z hz => by
      rcases List.mem_append.mp hz with h | h
      · exact hS.2.2 z h
      · exact hB _ (hL z h)⟩
  obtain ⟨t2, a1, b1⟩ := kk x T'.heap (locs ++ L) P' (D_app hDw hd1 hB hout) S' T' rfl X'
  exact ⟨t2, st t2 a1, b1⟩
theorem ini_blind {av : List Value} {q sz : Nat} {ev : va_E} : FrameBlind (va_Pc av (fun U => U.heap.size = sz ∧ va_P D vwCl [(q, ev)] U.heap ∧ va_K D vwCl tys U)) := fun b U g mk z => ⟨z.1, z.2.1, z.2.2.1, va_K.moved (u := U) (U := U.calling g mk b) (Vm.Alike.refl U.vm) z.2.2.2⟩
theorem one_P {q : Nat} {ev : va_E} (hP : va_P D vwCl (ws ++ [(q, ev)]) H) : va_P D vwCl [(q, ev)] H := fun k x hk => by
  match k, hk with
  | 0, hk => cases hk; exact hP _ _ app_r
  | k + 1, hk => cases hk
/-- new Shop(), behind any world -/
theorem mkShop {i1 i3 : Nat} (hx : p.tables.exec = Jvm.exec) (hb : c.code = cc) (hml : c.maxLocals = nL) (hown : s.vm.findClass own = some m.cls) (hts : ∀ w ∈ c0 :: W0, w.before args s = true) (hK : va_K D vwCl ((cI, .int) :: tys) s) (hP : va_P D vwCl ws H) (hD : va_D A ws) (hS : va_S A H0 H locs) (hA : ∀ x, H0.size ≤ x → A x)
    (h1 : Cond.classLink own i1 RX2 ∈ W0) (h3 : Cond.methodLink own i3 yX2_init ∈ W0) (hR : rm_X2_init.frames + 1 ≤ R.frames ∧ 8 + (1 + 11) + rm_X2_init.locals ≤ R.locals) (hsize : ls.size = nL) (hW : (rest.map fun v => v.category).sum ≤ 6) (hc : cells + 1 + rm_X2_init.cells ≤ R.cells) (hs : slots + 18 + rm_X2_init.slots ≤ R.slots)
    (d1 : decode cc pc = .ok (.new i1, 3)) (d2 : decode cc (pc + 3) = .ok (.dup, 1)) (d3 : decode cc (pc + 3 + 1) = .ok (.invokespecial i3, 3))
    (kk : ∀ (q : Nat) (a : Nat → Nat) (H1 : Heap) (locs1 : List Loc), va_P D vwCl (ws ++ shW cI q a sh0) H1 → va_D A (ws ++ shW cI q a sh0) → va_S A H0 H1 locs1 → W p l e R s m args below meth c H1 locs1 (cells + 1 + rm_X2_init.cells) (slots + 18 + rm_X2_init.slots) Q (F0 m (pc + 3 + 1 + 3) ls (.ref q :: rest))) : W p l e R s m args below meth c H locs cells slots Q (F0 m pc ls rest) := by
  refine va_new (ci := 2) (fs := in_X2) (C := RX2) (T := TX2) (N := 18) hx hb hts (fun w h => List.mem_cons_of_mem _ (inX2 w h)) tyX2 tyX2_ok hown (hts _ (List.mem_cons_of_mem _ h1)) (hts _ (List.mem_cons_of_mem _ min_X2)) (hts _ (List.mem_cons_of_mem _ mini_X2)) hK hP hD hS hA rfl fsX2 (Nat.le_trans (Nat.le_add_right _ _) hc) (Nat.le_trans (Nat.le_add_right _ _) hs) d1 (fun q H hP hD hS => ?_)
  refine lv_dup hx hb d2 rfl ?_
  refine iniCall (fun a => shW cI q a sh0) (rest := .ref q :: rest) hx hb hml hown hts (c_X2_init l D cI q H.size tys) (cwI 0 hts (gdI mc_yX2_init) rfl rfl rfl (hts _ (List.mem_cons_of_mem _ mini_X2)) (hts _ (List.mem_cons_of_mem _ h3)) (hts _ (List.mem_cons_of_mem _ mi_yX2_init)) rfl (by decide +kernel) hR) ⟨ini_blind, fun U hU hW => ⟨rfl, by rw [hU], by rw [hU]; exact one_P hP, va_K.moved hW.alike hK⟩⟩ hP hD hS hA hsize (by rw [List.map_cons, List.sum_cons]; show 1 + _ ≤ 8; omega) d3 hc hs (fun a H1 locs1 hP hD hS => kk q a H1 locs1 hP hD hS)
end MKO

/-! ===== pieces of a heap ===== -/
theorem va_P_lt {D : va_G} {cl : List vw_C} {ws : va_W} {H : Heap} (h : va_P D cl ws H) {k : Nat} {q : Nat × va_E} (hk : ws[k]? = some q) : q.1 < H.size := (h k q hk).lt
theorem keepP {D : va_G} {cl : List vw_C} {ws : va_W} {H H1 : Heap} {A : Nat → Prop} (h : va_P D cl ws H) (hd : ∀ (k : Nat) (q : Nat × va_E), ws[k]? = some q → ¬ A q.1) (hf : ∀ q : Nat, q < H.size → ¬ A q → H1[q]? = H[q]?) : va_P D cl ws H1 := h.kept (fun k q hk => hf q.1 (va_P_lt h hk) (hd k q hk))
theorem setP {D : va_G} {cl : List vw_C} {ws : va_W} {H H1 : Heap} {B : Nat → Prop} (h : va_P D cl ws H) (hD : va_D B ws) {p a : Nat} {e0 e : va_E} (hp : ws[p]? = some (a, e0)) (he : va_at D cl (a, e) H1) (hf : ∀ q : Nat, q < H.size → q ≠ a → H1[q]? = H[q]?) : va_P D cl (ws.set p (a, e)) H1 := by
  intro k q hk
  rw [List.getElem?_set] at hk
  split at hk
  · split at hk
    · cases hk; exact he
    · cases hk
  · rename_i hne
    refine (h k q hk).kept (hf q.1 (va_P_lt h hk) (fun z => hne ?_))
    exact (hD.1 p k _ _ hp hk z.symm)
section PX
variable {p : Program} {l : Launch} {e : Env} {R : Room} {s : State} {m : MethodId} {args : Array Value} {below : List Frame} {meth : Method} {c : Code} {H : Heap} {locs : List Loc} {cells slots : Nat} {Q : State → Prop} {cc : ByteArray} {pc : Nat} {ls : Array Slot} {rest : List Value} {A : Nat → Prop} {H0 : Heap} {D : va_G} {cl : List vw_C} {ws : va_W} {tys : List (ClassId × FieldType)} {a : Nat}
/-- va_put, and what it leaves alone -/
theorem va_putX (hexec : p.tables.exec = Jvm.exec) (hb : c.code = cc) {own ref C : String} {T : u_T} {N ci index : Nat} {Ts : List Cond} (hts : ∀ w ∈ Ts, w.before args s = true) (hin : ∀ w ∈ u_ws C T N, w ∈ Ts) (ty0 : Nat → FieldType) (hty : ∀ k, k < N → parseFieldDescriptor (T k).2.2.1 = some (ty0 k)) (hnm : ∀ a, a < N → ∀ b, b < N → a ≠ b → (T a).2.1 ≠ (T b).2.1) (hown : s.vm.findClass own = some m.cls) (hK : va_K D cl tys s) (hP : va_P D cl ws H) (hD : va_D A ws) (hS0 : va_S A H0 H locs) (q0 : Nat) {fs : List Value} (he : ws[q0]? = some (a, .inr (ci, fs))) (hc : cl[ci]? = some (C, T, N)) (k : Nat) (hk : k < N) (hlink : (Cond.fieldLink own index ref (T k).2.1 (T k).2.2.1).before args s = true) (hsame : ∀ x, s.fieldFound? (T k).1 (T k).2.1 (T k).2.2.1 = some x → s.fieldFound? ref (T k).2.1 (T k).2.2.1 = some x) (hfin : (T k).2.2.2 = false) {ty : FieldType} {v : Value} (hd : parseFieldDescriptor (T k).2.2.1 = some ty) (hn : narrow ty v = v) (hfit : fits ty v = true) (hl : k < fs.length)
    (hdg : decode cc pc = .ok (.putfield index, 3)) (kk : ∀ (H1 : Heap) (locs1 : List Loc), H1.size = H.size → (∀ q : Nat, q ≠ a → H1[q]? = H[q]?) → va_P D cl (ws.set q0 (a, .inr (ci, fs.set k v))) H1 → va_S A H0 H1 locs1 → W p l e R s m args below meth c H1 locs1 cells slots Q (F0 m (pc + 3) ls rest)) : W p l e R s m args below meth c H locs cells slots Q (F0 m pc ls (v :: .ref a :: rest)) := by
  have hap := va_apart (own := own) hts hin ty0 hty hnm hK hc
  obtain ⟨r, h1, cell, q1, q2, q3, q4⟩ := hP q0 _ he
  have hr : r = (C, T, N) := Option.some.inj (h1.symm.trans hc)
  subst hr
  obtain ⟨hS, hfc, kC, hkC, hkind⟩ := hK.1 ci _ hc
  obtain ⟨cf, kf, fi, f, hi, hsl⟩ := hS k hk
  have hlay := hts _ (hin _ (u_in_lay hk))
  unfold u_lay at hlay
  rw [if_neg (by rw [hfin]; decide)] at hlay
  have hst := (u_facts hfc hkC (u_lays hts hin hk) hi).1
  have h6 := u_store hfc hkC hkind hlay hi hd hn hfit
  refine W.putK hexec hb (f := f) ⟨hown, hlink, ⟨_, _, _, hsame _ hi⟩, hst⟩ (by rw [q2]; exact h6) q1 q3 (by rw [hsl]; exact k2_hasslot (q4 k hk)) rfl rfl hdg fun H' e1 e2 e3 => ?_
  rw [hsl] at e1 ⊢
  exact kk H' _ e2 e3 (hP.set hD he ⟨_, hc, t_OB.to (V := updV (vp_V fs) k v) ⟨_, e1, q2, q3, t_set q4 hap hk v⟩ (fun j _ => vp_updV_set hl v j)⟩ e3) (hS0.put e2 e3 (hD.2 q0 _ he))
end PX
theorem shW_fst {cI : ClassId} {o : Nat} {a : Nat → Nat} {σ : Nat → Nat → Int32} {n : Nat} {q : Nat × va_E} (h : (shW cI o a σ)[n]? = some q) : n < 15 ∧ q.1 = if n = 0 then o else a (n + 3) := by
  match n, h with
  | 0, h => cases h; exact ⟨by decide, rfl⟩
  | 1, h => cases h; exact ⟨by decide, rfl⟩
  | 2, h => cases h; exact ⟨by decide, rfl⟩
  | 3, h => cases h; exact ⟨by decide, rfl⟩
  | 4, h => cases h; exact ⟨by decide, rfl⟩
  | 5, h => cases h; exact ⟨by decide, rfl⟩
  | 6, h => cases h; exact ⟨by decide, rfl⟩
  | 7, h => cases h; exact ⟨by decide, rfl⟩
  | 8, h => cases h; exact ⟨by decide, rfl⟩
  | 9, h => cases h; exact ⟨by decide, rfl⟩
  | 10, h => cases h; exact ⟨by decide, rfl⟩
  | 11, h => cases h; exact ⟨by decide, rfl⟩
  | 12, h => cases h; exact ⟨by decide, rfl⟩
  | 13, h => cases h; exact ⟨by decide, rfl⟩
  | 14, h => cases h; exact ⟨by decide, rfl⟩
  | n + 15, h => cases h
theorem shA_of {o : Nat} {a : Nat → Nat} {q : Nat} (h : shA o a q) : ∃ n, n < 15 ∧ q = if n = 0 then o else a (n + 3) := by
  rcases h with h | h | h | h | h | h | h | h | h | h | h | h | h | h | h
  · exact ⟨0, by decide, h⟩
  · exact ⟨1, by decide, h⟩
  · exact ⟨2, by decide, h⟩
  · exact ⟨3, by decide, h⟩
  · exact ⟨4, by decide, h⟩
  · exact ⟨5, by decide, h⟩
  · exact ⟨6, by decide, h⟩
  · exact ⟨7, by decide, h⟩
  · exact ⟨8, by decide, h⟩
  · exact ⟨9, by decide, h⟩
  · exact ⟨10, by decide, h⟩
  · exact ⟨11, by decide, h⟩
  · exact ⟨12, by decide, h⟩
  · exact ⟨13, by decide, h⟩
  · exact ⟨14, by decide, h⟩
theorem shA_in {o : Nat} {a : Nat → Nat} {n : Nat} (hn : n < 15) : shA o a (if n = 0 then o else a (n + 3)) := by
  match n, hn with
  | 0, _ => exact Or.inl rfl
  | 1, _ => exact Or.inr (Or.inl rfl)
  | 2, _ => exact Or.inr (Or.inr (Or.inl rfl))
  | 3, _ => exact Or.inr (Or.inr (Or.inr (Or.inl rfl)))
  | 4, _ => exact Or.inr (Or.inr (Or.inr (Or.inr (Or.inl rfl))))
  | 5, _ => exact Or.inr (Or.inr (Or.inr (Or.inr (Or.inr (Or.inl rfl)))))
  | 6, _ => exact Or.inr (Or.inr (Or.inr (Or.inr (Or.inr (Or.inr (Or.inl rfl))))))
  | 7, _ => exact Or.inr (Or.inr (Or.inr (Or.inr (Or.inr (Or.inr (Or.inr (Or.inl rfl)))))))
  | 8, _ => exact Or.inr (Or.inr (Or.inr (Or.inr (Or.inr (Or.inr (Or.inr (Or.inr (Or.inl rfl))))))))
  | 9, _ => exact Or.inr (Or.inr (Or.inr (Or.inr (Or.inr (Or.inr (Or.inr (Or.inr (Or.inr (Or.inl rfl)))))))))
  | 10, _ => exact Or.inr (Or.inr (Or.inr (Or.inr (Or.inr (Or.inr (Or.inr (Or.inr (Or.inr (Or.inr (Or.inl rfl))))))))))
  | 11, _ => exact Or.inr (Or.inr (Or.inr (Or.inr (Or.inr (Or.inr (Or.inr (Or.inr (Or.inr (Or.inr (Or.inr (Or.inl rfl)))))))))))
  | 12, _ => exact Or.inr (Or.inr (Or.inr (Or.inr (Or.inr (Or.inr (Or.inr (Or.inr (Or.inr (Or.inr (Or.inr (Or.inr (Or.inl rfl))))))))))))
  | 13, _ => exact Or.inr (Or.inr (Or.inr (Or.inr (Or.inr (Or.inr (Or.inr (Or.inr (Or.inr (Or.inr (Or.inr (Or.inr (Or.inr (Or.inl rfl)))))))))))))
  | 14, _ => exact Or.inr (Or.inr (Or.inr (Or.inr (Or.inr (Or.inr (Or.inr (Or.inr (Or.inr (Or.inr (Or.inr (Or.inr (Or.inr (Or.inr (rfl))))))))))))))
  | n + 15, h => exact absurd h (by omega)
/-! ===== fill and becomeLike ===== -/
def flP (D : va_G) (cI : ClassId) (x y n : Nat) (f g : Nat → Int32) (U : State) : Prop := va_P D vwCl [(x, .inl (cI, n, .inl f)), (y, .inl (cI, n, .inl g))] U.heap ∧ va_K D vwCl [(cI, .int)] U ∧ x ≠ y
theorem fl_blind {av : List Value} {D : va_G} {cI : ClassId} {x y n : Nat} {f g : Nat → Int32} : FrameBlind (va_Pc av (flP D cI x y n f g)) := fun b U g mk q => ⟨q.1, q.2.1, va_K.moved (u := U) (U := U.calling g mk b) (Vm.Alike.refl U.vm) q.2.2.1, q.2.2.2⟩
def cpF (n : Nat) (f g : Nat → Int32) : Nat → Int32 := fun j => if j < n then g j else f j
theorem cpF_eq {n : Nat} {f g : Nat → Int32} : va_cpy g f 0 0 n = cpF n f g := by
  funext j
  unfold va_cpy cpF
  by_cases h : j < n
  · rw [if_pos (by omega), if_pos h]; congr 1; omega
  · rw [if_neg (by omega), if_neg h]
def flQ (D : va_G) (cI : ClassId) (x n : Nat) (f g : Nat → Int32) : Array Value → State → Outcome → State → Prop := fun _ st oc t => oc = .returned none ∧ va_P D vwCl [(x, .inl (cI, n, .inl (cpF n f g)))] t.heap ∧ va_F (fun q => q = x) st t
abbrev rm_X2_fill : Room := { frames := 1, cells := 0, slots := 0, locals := 100 }
set_option maxRecDepth 100000 in
theorem c_X2_fill (l : Launch) (D : va_G) (cI : ClassId) (x y n : Nat) (f g : Nat → Int32) (hn : n < 1000) :
    Met l yX2_fill (Cond.code yX2_fill cX2_fill 2 (none) :: W0) rm_X2_fill (va_Pc [.ref x, .ref y] (flP D cI x y n f g)) (flQ D cI x n f g) 0 0 (fun q => q = x ∨ q = y) := by
  refine st_gen (cc := cX2_fill) (maxL := 2) (ret := none) (own := RX2) (by decide) rfl (Nat.le_of_ble_eq_true rfl) ?_
  intro p e s m below meth c ls C hPre hl
  obtain ⟨hx, hb, hr, hml, hown, hts, hlk⟩ := C
  obtain ⟨hP, hK, hxy⟩ := hPre
  have hl : lv_has ls 2 [(0, .ref x), (1, .ref y)] := hl
  have hD : va_D (fun q => q = x ∨ q = y) [(x, .inl (cI, n, .inl f)), (y, .inl (cI, n, .inl g))] := by
    refine ⟨fun i j p q hp hq h => ?_, fun k q hq => ?_⟩
    · match i, j, hp, hq with
      | 0, 0, _, _ => rfl
      | 1, 1, _, _ => rfl
      | 0, 1, hp, hq => cases hp; cases hq; exact absurd h hxy
      | 1, 0, hp, hq => cases hp; cases hq; exact absurd h.symm hxy
      | i + 2, _, hp, _ => cases hp
      | 0, j + 2, _, hq => cases hq
      | 1, j + 2, _, hq => cases hq
    · match k, hq with
      | 0, hq => cases hq; exact Or.inl rfl
      | 1, hq => cases hq; exact Or.inr rfl
      | k + 2, hq => cases hq
  have hS : va_S (fun q => q = x ∨ q = y) s.heap s.heap [] := va_S.rf
  refine lv_aload_n hx hb dX2_fill_0 rfl (lv_at hl 1 rfl) ?_
  refine lv_iconst (v := 0) hx hb dX2_fill_1 (by decide) ?_
  refine lv_aload_n hx hb dX2_fill_2 rfl (lv_at hl 0 rfl) ?_
  refine lv_iconst (v := 0) hx hb dX2_fill_3 (by decide) ?_
  refine lv_aload_n hx hb dX2_fill_4 rfl (lv_at hl 0 rfl) ?_
  refine va_alen hx hb hK hP 0 0 rfl rfl (v := nI n) rfl dX2_fill_5 ?_
  refine lv_aload_n hx hb dX2_fill_6 rfl (lv_at hl 1 rfl) ?_
  refine va_alen hx hb hK hP 1 0 rfl rfl (v := nI n) rfl dX2_fill_7 ?_
  refine r_min hx hb hml hown hts hl.1 ml_X2_71 (Nat.le_of_ble_eq_true rfl) (Nat.le_of_ble_eq_true rfl) (Nat.zero_le _) (Nat.zero_le _) (rest := [.int 0, .ref x, .int 0, .ref y]) dX2_fill_8 ?_
  rw [show (if nI n < nI n then nI n else nI n) = nI n from ite_self _]
  have e0 : (0 : Int32).toNatClampNeg = 0 := by decide
  have en : (nI n).toNatClampNeg = n := nI_clamp (by omega)
  refine va_copyi (f := g) (g := f) (n0 := n) (n1 := n) (ty := .int) hx hb (hml.trans hl.1.symm) hown (hts _ (List.mem_cons_of_mem _ ml_X2_77)) (hts _ (List.mem_cons_of_mem _ mnat_arraycopyName)) (hts _ (List.mem_cons_of_mem _ mst_arraycopyName)) (hts _ (List.mem_cons_of_mem _ mini_J10)) hK hP hD hS 1 0 0 0 rfl rfl rfl rfl rfl (by decide) (by decide) (nI_pos (by omega)) (by rw [e0, en]; omega) (by rw [e0, en]; omega) (fun _ _ => rfl) (Nat.le_of_ble_eq_true rfl) (Nat.le_of_ble_eq_true rfl) dX2_fill_11 (fun H1 locs1 hP1 hD1 hS1 => ?_)
  rw [e0, en, cpF_eq] at hP1
  have q0 : va_at D vwCl (x, .inl (cI, n, .inl (cpF n f g))) H1 := hP1 0 _ rfl
  have q1 : H1[y]? = some (vp_cell cI (n, .inl g)) := hP1 1 _ rfl
  have q2 : s.heap[y]? = some (vp_cell cI (n, .inl g)) := hP 1 _ rfl
  refine W.vret hx hb hr (fun t ht hW => ⟨rfl, ?_, ?_⟩) hS1.2.2 dX2_fill_14 hlk
  · rw [ht]
    intro k q hq
    match k, hq with
    | 0, hq => cases hq; exact q0
    | k + 1, hq => cases hq
  · refine ⟨by rw [ht]; exact hS1.1, fun q hq hne => ?_⟩
    rw [ht]
    by_cases hy : q = y
    · rw [hy, q1, q2]
    · exact hS1.2.1 q hq (fun z => z.elim hne hy)
theorem kS_X2_fill {R : Room} {s : State} {args : Array Value} {own : String} {idx : Nat} {c0 : Cond} (hts : ∀ w ∈ c0 :: W0, w.before args s = true) (hl : Cond.methodLink own idx yX2_fill ∈ W0) (hR : rm_X2_fill.frames + 1 ≤ R.frames ∧ 8 + (2 + 11) + rm_X2_fill.locals ≤ R.locals) : CallB R s args own idx yX2_fill cX2_fill 2 (none) (Cond.code yX2_fill cX2_fill 2 (none) :: W0) rm_X2_fill 0 0 2 ∧ (Cond.static yX2_fill).before args s = true := va_cwS 2 hts (gdS hl mst_yX2_fill mini_X2 mc_yX2_fill) rfl rfl rfl (by decide +kernel) hR
/-- becomeLike: the state of the one becomes the other's -/
def shLen (k : Nat) : Nat := match k with | 4 => 4 | 5 => 6 | 6 => 6 | 7 => 6 | 8 => 6 | 9 => 6 | 10 => 60 | 11 => 60 | 12 => 60 | 13 => 60 | 14 => 60 | 15 => 60 | 16 => 7 | _ => 8
def cpS (τ σ : Nat → Nat → Int32) : Nat → Nat → Int32 := fun k => if k < 4 then (fun _ => τ k 0) else cpF (shLen k) (σ k) (τ k)
def twP (D : va_G) (cI : ClassId) (o1 : Nat) (a1 : Nat → Nat) (σ1 : Nat → Nat → Int32) (o2 : Nat) (a2 : Nat → Nat) (σ2 : Nat → Nat → Int32) (H : Heap) : Prop := va_P D vwCl (shW cI o1 a1 σ1) H ∧ va_P D vwCl (shW cI o2 a2 σ2) H
def twD (o1 : Nat) (a1 : Nat → Nat) (o2 : Nat) (a2 : Nat → Nat) : Prop := shD o1 a1 ∧ shD o2 a2 ∧ ∀ q, shA o1 a1 q → ¬ shA o2 a2 q
def twF (o1 : Nat) (a1 : Nat → Nat) (o2 : Nat) (a2 : Nat → Nat) : Nat → Prop := fun q => shA o1 a1 q ∨ shA o2 a2 q
def twM (D : va_G) (cI : ClassId) (o1 : Nat) (a1 : Nat → Nat) (σ1 : Nat → Nat → Int32) (o2 : Nat) (a2 : Nat → Nat) (σ2 : Nat → Nat → Int32) (U : State) : Prop := twP D cI o1 a1 σ1 o2 a2 σ2 U.heap ∧ va_K D vwCl [(cI, .int)] U ∧ twD o1 a1 o2 a2
theorem tw_blind {av : List Value} {D : va_G} {cI : ClassId} {o1 : Nat} {a1 : Nat → Nat} {σ1 : Nat → Nat → Int32} {o2 : Nat} {a2 : Nat → Nat} {σ2 : Nat → Nat → Int32} : FrameBlind (va_Pc av (twM D cI o1 a1 σ1 o2 a2 σ2)) := fun b U g mk q => ⟨q.1, q.2.1, va_K.moved (u := U) (U := U.calling g mk b) (Vm.Alike.refl U.vm) q.2.2.1, q.2.2.2⟩
def twQ (D : va_G) (cI : ClassId) (o1 : Nat) (a1 : Nat → Nat) (σ1 : Nat → Nat → Int32) : Array Value → State → Outcome → State → Prop := fun _ st oc t => oc = .returned none ∧ va_P D vwCl (shW cI o1 a1 σ1) t.heap ∧ va_F (shA o1 a1) st t
/-- what is written so far: in the one shop; and where locations were noted -/
def twS (o1 : Nat) (a1 : Nat → Nat) (o2 : Nat) (a2 : Nat → Nat) (H0 H : Heap) (locs : List Loc) : Prop := H0.size ≤ H.size ∧ (∀ q : Nat, q < H0.size → ¬ shA o1 a1 q → H[q]? = H0[q]?) ∧ ∀ l ∈ locs, twF o1 a1 o2 a2 l.base
section TW
variable {p : Program} {l : Launch} {e : Env} {R : Room} {s : State} {m : MethodId} {args : Array Value} {below : List Frame} {meth : Method} {c : Code} {H : Heap} {locs : List Loc} {cells slots : Nat} {Q : State → Prop} {cc : ByteArray} {nL : Nat} {own : String} {c0 : Cond} {pc : Nat} {ls : Array Slot} {rest st0 : List Value} {H0 : Heap} {D : va_G} {cI : ClassId} {o1 o2 : Nat} {a1 a2 : Nat → Nat} {σ1 σ2 : Nat → Nat → Int32}

theorem tw_p0 (hx : p.tables.exec = Jvm.exec) (hb : c.code = cc) (hts : ∀ w ∈ c0 :: W0, w.before args s = true) (hown : s.vm.findClass RX2 = some m.cls) (hK : va_K D vwCl [(cI, .int)] s) (hP : twP D cI o1 a1 σ1 o2 a2 σ2 H) (hD : twD o1 a1 o2 a2) (hS : twS o1 a1 o2 a2 H0 H locs) {x : Int32} (d : decode cc pc = .ok (.putfield 9, 3)) (kk : ∀ (H1 : Heap) (locs1 : List Loc), twP D cI o1 a1 (shS σ1 0 x) o2 a2 σ2 H1 → twS o1 a1 o2 a2 H0 H1 locs1 → W p l e R s m args below meth c H1 locs1 cells slots Q (F0 m (pc + 3) ls rest)) : W p l e R s m args below meth c H locs cells slots Q (F0 m pc ls (.int x :: .ref o1 :: rest)) := by
  have hS2 : va_S (twF o1 a1 o2 a2) H0 H locs := ⟨hS.1, fun q h1 h2 => hS.2.1 q h1 (fun z => h2 (Or.inl z)), hS.2.2⟩
  have hDw : va_D (twF o1 a1 o2 a2) (shW cI o1 a1 σ1) := (shD_of hD.1).weaken (fun _ _ _ h => Or.inl h)
  refine va_putX (ci := 2) (C := RX2) (T := TX2) (N := 18) (v := .int x) (ty := .int) hx hb hts (fun w h => List.mem_cons_of_mem _ (inX2 w h)) tyX2 tyX2_ok nmX2 hown hK hP.1 hDw hS2 0 rfl rfl 0 (by decide) (hts _ (List.mem_cons_of_mem _ mf_X2_9)) (fun _ h => h) rfl (by decide +kernel) rfl rfl (Nat.le_of_ble_eq_true rfl) d (fun H1 locs1 hz ho h1 h3 => kk H1 locs1 ⟨h1, ?_⟩ ⟨by rw [hz]; exact hS.1, fun q hq hn => ?_, h3.2.2⟩)
  · refine keepP (A := fun q => q = o1) hP.2 (fun k q hk hq => ?_) (fun q _ hq => ho q hq)
    exact hD.2.2 o1 (Or.inl rfl) (hq ▸ (shD_of (cI := cI) (σ := σ2) hD.2.1).2 k q hk)
  · rw [ho q (fun z => hn (Or.inl z))]; exact hS.2.1 q hq hn
theorem tw_p1 (hx : p.tables.exec = Jvm.exec) (hb : c.code = cc) (hts : ∀ w ∈ c0 :: W0, w.before args s = true) (hown : s.vm.findClass RX2 = some m.cls) (hK : va_K D vwCl [(cI, .int)] s) (hP : twP D cI o1 a1 σ1 o2 a2 σ2 H) (hD : twD o1 a1 o2 a2) (hS : twS o1 a1 o2 a2 H0 H locs) {x : Int32} (d : decode cc pc = .ok (.putfield 15, 3)) (kk : ∀ (H1 : Heap) (locs1 : List Loc), twP D cI o1 a1 (shS σ1 1 x) o2 a2 σ2 H1 → twS o1 a1 o2 a2 H0 H1 locs1 → W p l e R s m args below meth c H1 locs1 cells slots Q (F0 m (pc + 3) ls rest)) : W p l e R s m args below meth c H locs cells slots Q (F0 m pc ls (.int x :: .ref o1 :: rest)) := by
  have hS2 : va_S (twF o1 a1 o2 a2) H0 H locs := ⟨hS.1, fun q h1 h2 => hS.2.1 q h1 (fun z => h2 (Or.inl z)), hS.2.2⟩
  have hDw : va_D (twF o1 a1 o2 a2) (shW cI o1 a1 σ1) := (shD_of hD.1).weaken (fun _ _ _ h => Or.inl h)
  refine va_putX (ci := 2) (C := RX2) (T := TX2) (N := 18) (v := .int x) (ty := .int) hx hb hts (fun w h => List.mem_cons_of_mem _ (inX2 w h)) tyX2 tyX2_ok nmX2 hown hK hP.1 hDw hS2 0 rfl rfl 1 (by decide) (hts _ (List.mem_cons_of_mem _ mf_X2_15)) (fun _ h => h) rfl (by decide +kernel) rfl rfl (Nat.le_of_ble_eq_true rfl) d (fun H1 locs1 hz ho h1 h3 => kk H1 locs1 ⟨h1, ?_⟩ ⟨by rw [hz]; exact hS.1, fun q hq hn => ?_, h3.2.2⟩)
  · refine keepP (A := fun q => q = o1) hP.2 (fun k q hk hq => ?_) (fun q _ hq => ho q hq)
    exact hD.2.2 o1 (Or.inl rfl) (hq ▸ (shD_of (cI := cI) (σ := σ2) hD.2.1).2 k q hk)
  · rw [ho q (fun z => hn (Or.inl z))]; exact hS.2.1 q hq hn
theorem tw_p2 (hx : p.tables.exec = Jvm.exec) (hb : c.code = cc) (hts : ∀ w ∈ c0 :: W0, w.before args s = true) (hown : s.vm.findClass RX2 = some m.cls) (hK : va_K D vwCl [(cI, .int)] s) (hP : twP D cI o1 a1 σ1 o2 a2 σ2 H) (hD : twD o1 a1 o2 a2) (hS : twS o1 a1 o2 a2 H0 H locs) {x : Int32} (d : decode cc pc = .ok (.putfield 18, 3)) (kk : ∀ (H1 : Heap) (locs1 : List Loc), twP D cI o1 a1 (shS σ1 2 x) o2 a2 σ2 H1 → twS o1 a1 o2 a2 H0 H1 locs1 → W p l e R s m args below meth c H1 locs1 cells slots Q (F0 m (pc + 3) ls rest)) : W p l e R s m args below meth c H locs cells slots Q (F0 m pc ls (.int x :: .ref o1 :: rest)) := by
  have hS2 : va_S (twF o1 a1 o2 a2) H0 H locs := ⟨hS.1, fun q h1 h2 => hS.2.1 q h1 (fun z => h2 (Or.inl z)), hS.2.2⟩
  have hDw : va_D (twF o1 a1 o2 a2) (shW cI o1 a1 σ1) := (shD_of hD.1).weaken (fun _ _ _ h => Or.inl h)
  refine va_putX (ci := 2) (C := RX2) (T := TX2) (N := 18) (v := .int x) (ty := .int) hx hb hts (fun w h => List.mem_cons_of_mem _ (inX2 w h)) tyX2 tyX2_ok nmX2 hown hK hP.1 hDw hS2 0 rfl rfl 2 (by decide) (hts _ (List.mem_cons_of_mem _ mf_X2_18)) (fun _ h => h) rfl (by decide +kernel) rfl rfl (Nat.le_of_ble_eq_true rfl) d (fun H1 locs1 hz ho h1 h3 => kk H1 locs1 ⟨h1, ?_⟩ ⟨by rw [hz]; exact hS.1, fun q hq hn => ?_, h3.2.2⟩)
  · refine keepP (A := fun q => q = o1) hP.2 (fun k q hk hq => ?_) (fun q _ hq => ho q hq)
    exact hD.2.2 o1 (Or.inl rfl) (hq ▸ (shD_of (cI := cI) (σ := σ2) hD.2.1).2 k q hk)
  · rw [ho q (fun z => hn (Or.inl z))]; exact hS.2.1 q hq hn
theorem tw_p3 (hx : p.tables.exec = Jvm.exec) (hb : c.code = cc) (hts : ∀ w ∈ c0 :: W0, w.before args s = true) (hown : s.vm.findClass RX2 = some m.cls) (hK : va_K D vwCl [(cI, .int)] s) (hP : twP D cI o1 a1 σ1 o2 a2 σ2 H) (hD : twD o1 a1 o2 a2) (hS : twS o1 a1 o2 a2 H0 H locs) {x : Int32} (d : decode cc pc = .ok (.putfield 21, 3)) (kk : ∀ (H1 : Heap) (locs1 : List Loc), twP D cI o1 a1 (shS σ1 3 x) o2 a2 σ2 H1 → twS o1 a1 o2 a2 H0 H1 locs1 → W p l e R s m args below meth c H1 locs1 cells slots Q (F0 m (pc + 3) ls rest)) : W p l e R s m args below meth c H locs cells slots Q (F0 m pc ls (.int x :: .ref o1 :: rest)) := by
  have hS2 : va_S (twF o1 a1 o2 a2) H0 H locs := ⟨hS.1, fun q h1 h2 => hS.2.1 q h1 (fun z => h2 (Or.inl z)), hS.2.2⟩
  have hDw : va_D (twF o1 a1 o2 a2) (shW cI o1 a1 σ1) := (shD_of hD.1).weaken (fun _ _ _ h => Or.inl h)
  refine va_putX (ci := 2) (C := RX2) (T := TX2) (N := 18) (v := .int x) (ty := .int) hx hb hts (fun w h => List.mem_cons_of_mem _ (inX2 w h)) tyX2 tyX2_ok nmX2 hown hK hP.1 hDw hS2 0 rfl rfl 3 (by decide) (hts _ (List.mem_cons_of_mem _ mf_X2_21)) (fun _ h => h) rfl (by decide +kernel) rfl rfl (Nat.le_of_ble_eq_true rfl) d (fun H1 locs1 hz ho h1 h3 => kk H1 locs1 ⟨h1, ?_⟩ ⟨by rw [hz]; exact hS.1, fun q hq hn => ?_, h3.2.2⟩)
  · refine keepP (A := fun q => q = o1) hP.2 (fun k q hk hq => ?_) (fun q _ hq => ho q hq)
    exact hD.2.2 o1 (Or.inl rfl) (hq ▸ (shD_of (cI := cI) (σ := σ2) hD.2.1).2 k q hk)
  · rw [ho q (fun z => hn (Or.inl z))]; exact hS.2.1 q hq hn
theorem tw_f4 (hx : p.tables.exec = Jvm.exec) (hb : c.code = cc) (hml : c.maxLocals = nL) (hts : ∀ w ∈ c0 :: W0, w.before args s = true) (hown : s.vm.findClass RX2 = some m.cls) (hK : va_K D vwCl [(cI, .int)] s) (hP : twP D cI o1 a1 σ1 o2 a2 σ2 H) (hD : twD o1 a1 o2 a2) (hS : twS o1 a1 o2 a2 H0 H locs) (hR : rm_X2_fill.frames + 1 ≤ R.frames ∧ 8 + (2 + 11) + rm_X2_fill.locals ≤ R.locals) (hsize : ls.size = nL) (d : decode cc pc = .ok (.invokestatic 67, 3)) (hc : cells ≤ R.cells) (hs : slots ≤ R.slots) (hW : (rest.map fun v => v.category).sum ≤ 8) (kk : ∀ (H1 : Heap) (locs1 : List Loc), twP D cI o1 a1 (va_up σ1 4 (cpF 4 (σ1 4) (σ2 4))) o2 a2 σ2 H1 → twS o1 a1 o2 a2 H0 H1 locs1 → W p l e R s m args below meth c H1 locs1 cells slots Q (F0 m (pc + 3) ls rest)) : W p l e R s m args below meth c H locs cells slots Q (F0 m pc ls (.ref (a2 4) :: .ref (a1 4) :: rest)) := by
  have i1 : shA o1 a1 (a1 4) := shA_in (n := 1) (by decide)
  have i2 : shA o2 a2 (a2 4) := shA_in (n := 1) (by decide)
  have hne : a1 4 ≠ a2 4 := fun z => hD.2.2 _ i1 (z ▸ i2)
  have hPc : va_P D vwCl [(a1 4, .inl (cI, 4, .inl (σ1 4))), (a2 4, .inl (cI, 4, .inl (σ2 4)))] H := by
    intro j q hq
    match j, hq with
    | 0, hq => cases hq; exact hP.1 1 _ rfl
    | 1, hq => cases hq; exact hP.2 1 _ rfl
    | j + 2, hq => cases hq
  have hr := va_runS (As := [.ref (a1 4), .ref (a2 4)]) (rest := rest) (locs := locs) (slots := slots) (below := below) (meth := meth) (p := p) (e := e) (own := RX2) ⟨hx, hb, hml, hown, hts⟩ (c_X2_fill l D cI (a1 4) (a2 4) 4 (σ1 4) (σ2 4) (by decide)) (kS_X2_fill hts ml_X2_67 hR) ⟨fl_blind, fun U hU hW => ⟨rfl, by rw [hU]; exact hPc, va_K.moved hW.alike hK, hne⟩⟩ (g := F0 m pc ls (.ref (a2 4) :: .ref (a1 4) :: rest)) rfl rfl hsize rfl (lv_room hW) d ⟨hc, hs⟩
  intro T hT X
  obtain ⟨v1, st₀, t, T', L, h0, X', hL, e1, e2, ⟨hv, hp, hF⟩, st⟩ := hr T hT X
  cases hv
  have fr : ∀ q : Nat, q < H.size → q ≠ a1 4 → T'.heap[q]? = H[q]? := fun q hq hn => by rw [e1, hF.2 q (by rw [h0]; exact hq) hn, h0]
  have p1 : va_P D vwCl (shW cI o1 a1 (va_up σ1 4 (cpF 4 (σ1 4) (σ2 4)))) T'.heap := setP (a := a1 4) (p := 1) (e := .inl (cI, 4, .inl (cpF 4 (σ1 4) (σ2 4)))) hP.1 (shD_of (cI := cI) (σ := σ1) hD.1) rfl (by rw [e1]; exact hp 0 _ rfl) fr
  have p2 : va_P D vwCl (shW cI o2 a2 σ2) T'.heap := keepP (A := fun q => q = a1 4) hP.2 (fun j q hj hq => hD.2.2 _ i1 (hq ▸ (shD_of (cI := cI) (σ := σ2) hD.2.1).2 j q hj)) fr
  obtain ⟨t2, a1', b1⟩ := kk T'.heap (locs ++ L) ⟨p1, p2⟩ ⟨Nat.le_trans hS.1 (by rw [e1, ← h0]; exact hF.1), fun q h1 h2 => by rw [fr q (Nat.lt_of_lt_of_le h1 hS.1) (fun z => h2 (z ▸ i1))]; exact hS.2.1 q h1 h2, fun q hq => by
      rcases List.mem_append.mp hq with h | h
      · exact hS.2.2 q h
      · exact (hL q h).elim (fun z => Or.inl (z ▸ i1)) (fun z => Or.inr (z ▸ i2))⟩ T' rfl X'
  exact ⟨t2, st t2 a1', b1⟩
theorem tw_f5 (hx : p.tables.exec = Jvm.exec) (hb : c.code = cc) (hml : c.maxLocals = nL) (hts : ∀ w ∈ c0 :: W0, w.before args s = true) (hown : s.vm.findClass RX2 = some m.cls) (hK : va_K D vwCl [(cI, .int)] s) (hP : twP D cI o1 a1 σ1 o2 a2 σ2 H) (hD : twD o1 a1 o2 a2) (hS : twS o1 a1 o2 a2 H0 H locs) (hR : rm_X2_fill.frames + 1 ≤ R.frames ∧ 8 + (2 + 11) + rm_X2_fill.locals ≤ R.locals) (hsize : ls.size = nL) (d : decode cc pc = .ok (.invokestatic 67, 3)) (hc : cells ≤ R.cells) (hs : slots ≤ R.slots) (hW : (rest.map fun v => v.category).sum ≤ 8) (kk : ∀ (H1 : Heap) (locs1 : List Loc), twP D cI o1 a1 (va_up σ1 5 (cpF 6 (σ1 5) (σ2 5))) o2 a2 σ2 H1 → twS o1 a1 o2 a2 H0 H1 locs1 → W p l e R s m args below meth c H1 locs1 cells slots Q (F0 m (pc + 3) ls rest)) : W p l e R s m args below meth c H locs cells slots Q (F0 m pc ls (.ref (a2 5) :: .ref (a1 5) :: rest)) := by
  have i1 : shA o1 a1 (a1 5) := shA_in (n := 2) (by decide)
  have i2 : shA o2 a2 (a2 5) := shA_in (n := 2) (by decide)
  have hne : a1 5 ≠ a2 5 := fun z => hD.2.2 _ i1 (z ▸ i2)
  have hPc : va_P D vwCl [(a1 5, .inl (cI, 6, .inl (σ1 5))), (a2 5, .inl (cI, 6, .inl (σ2 5)))] H := by
    intro j q hq
    match j, hq with
    | 0, hq => cases hq; exact hP.1 2 _ rfl
    | 1, hq => cases hq; exact hP.2 2 _ rfl
    | j + 2, hq => cases hq
  have hr := va_runS (As := [.ref (a1 5), .ref (a2 5)]) (rest := rest) (locs := locs) (slots := slots) (below := below) (meth := meth) (p := p) (e := e) (own := RX2) ⟨hx, hb, hml, hown, hts⟩ (c_X2_fill l D cI (a1 5) (a2 5) 6 (σ1 5) (σ2 5) (by decide)) (kS_X2_fill hts ml_X2_67 hR) ⟨fl_blind, fun U hU hW => ⟨rfl, by rw [hU]; exact hPc, va_K.moved hW.alike hK, hne⟩⟩ (g := F0 m pc ls (.ref (a2 5) :: .ref (a1 5) :: rest)) rfl rfl hsize rfl (lv_room hW) d ⟨hc, hs⟩
  intro T hT X
  obtain ⟨v1, st₀, t, T', L, h0, X', hL, e1, e2, ⟨hv, hp, hF⟩, st⟩ := hr T hT X
  cases hv
  have fr : ∀ q : Nat, q < H.size → q ≠ a1 5 → T'.heap[q]? = H[q]? := fun q hq hn => by rw [e1, hF.2 q (by rw [h0]; exact hq) hn, h0]
  have p1 : va_P D vwCl (shW cI o1 a1 (va_up σ1 5 (cpF 6 (σ1 5) (σ2 5)))) T'.heap := setP (a := a1 5) (p := 2) (e := .inl (cI, 6, .inl (cpF 6 (σ1 5) (σ2 5)))) hP.1 (shD_of (cI := cI) (σ := σ1) hD.1) rfl (by rw [e1]; exact hp 0 _ rfl) fr
  have p2 : va_P D vwCl (shW cI o2 a2 σ2) T'.heap := keepP (A := fun q => q = a1 5) hP.2 (fun j q hj hq => hD.2.2 _ i1 (hq ▸ (shD_of (cI := cI) (σ := σ2) hD.2.1).2 j q hj)) fr
  obtain ⟨t2, a1', b1⟩ := kk T'.heap (locs ++ L) ⟨p1, p2⟩ ⟨Nat.le_trans hS.1 (by rw [e1, ← h0]; exact hF.1), fun q h1 h2 => by rw [fr q (Nat.lt_of_lt_of_le h1 hS.1) (fun z => h2 (z ▸ i1))]; exact hS.2.1 q h1 h2, fun q hq => by
      rcases List.mem_append.mp hq with h | h
      · exact hS.2.2 q h
      · exact (hL q h).elim (fun z => Or.inl (z ▸ i1)) (fun z => Or.inr (z ▸ i2))⟩ T' rfl X'
  exact ⟨t2, st t2 a1', b1⟩
theorem tw_f6 (hx : p.tables.exec = Jvm.exec) (hb : c.code = cc) (hml : c.maxLocals = nL) (hts : ∀ w ∈ c0 :: W0, w.before args s = true) (hown : s.vm.findClass RX2 = some m.cls) (hK : va_K D vwCl [(cI, .int)] s) (hP : twP D cI o1 a1 σ1 o2 a2 σ2 H) (hD : twD o1 a1 o2 a2) (hS : twS o1 a1 o2 a2 H0 H locs) (hR : rm_X2_fill.frames + 1 ≤ R.frames ∧ 8 + (2 + 11) + rm_X2_fill.locals ≤ R.locals) (hsize : ls.size = nL) (d : decode cc pc = .ok (.invokestatic 67, 3)) (hc : cells ≤ R.cells) (hs : slots ≤ R.slots) (hW : (rest.map fun v => v.category).sum ≤ 8) (kk : ∀ (H1 : Heap) (locs1 : List Loc), twP D cI o1 a1 (va_up σ1 6 (cpF 6 (σ1 6) (σ2 6))) o2 a2 σ2 H1 → twS o1 a1 o2 a2 H0 H1 locs1 → W p l e R s m args below meth c H1 locs1 cells slots Q (F0 m (pc + 3) ls rest)) : W p l e R s m args below meth c H locs cells slots Q (F0 m pc ls (.ref (a2 6) :: .ref (a1 6) :: rest)) := by
  have i1 : shA o1 a1 (a1 6) := shA_in (n := 3) (by decide)
  have i2 : shA o2 a2 (a2 6) := shA_in (n := 3) (by decide)
  have hne : a1 6 ≠ a2 6 := fun z => hD.2.2 _ i1 (z ▸ i2)
  have hPc : va_P D vwCl [(a1 6, .inl (cI, 6, .inl (σ1 6))), (a2 6, .inl (cI, 6, .inl (σ2 6)))] H := by
    intro j q hq
    match j, hq with
    | 0, hq => cases hq; exact hP.1 3 _ rfl
    | 1, hq => cases hq; exact hP.2 3 _ rfl
    | j + 2, hq => cases hq
  have hr := va_runS (As := [.ref (a1 6), .ref (a2 6)]) (rest := rest) (locs := locs) (slots := slots) (below := below) (meth := meth) (p := p) (e := e) (own := RX2) ⟨hx, hb, hml, hown, hts⟩ (c_X2_fill l D cI (a1 6) (a2 6) 6 (σ1 6) (σ2 6) (by decide)) (kS_X2_fill hts ml_X2_67 hR) ⟨fl_blind, fun U hU hW => ⟨rfl, by rw [hU]; exact hPc, va_K.moved hW.alike hK, hne⟩⟩ (g := F0 m pc ls (.ref (a2 6) :: .ref (a1 6) :: rest)) rfl rfl hsize rfl (lv_room hW) d ⟨hc, hs⟩
  intro T hT X
  obtain ⟨v1, st₀, t, T', L, h0, X', hL, e1, e2, ⟨hv, hp, hF⟩, st⟩ := hr T hT X
  cases hv
  have fr : ∀ q : Nat, q < H.size → q ≠ a1 6 → T'.heap[q]? = H[q]? := fun q hq hn => by rw [e1, hF.2 q (by rw [h0]; exact hq) hn, h0]
  have p1 : va_P D vwCl (shW cI o1 a1 (va_up σ1 6 (cpF 6 (σ1 6) (σ2 6)))) T'.heap := setP (a := a1 6) (p := 3) (e := .inl (cI, 6, .inl (cpF 6 (σ1 6) (σ2 6)))) hP.1 (shD_of (cI := cI) (σ := σ1) hD.1) rfl (by rw [e1]; exact hp 0 _ rfl) fr
  have p2 : va_P D vwCl (shW cI o2 a2 σ2) T'.heap := keepP (A := fun q => q = a1 6) hP.2 (fun j q hj hq => hD.2.2 _ i1 (hq ▸ (shD_of (cI := cI) (σ := σ2) hD.2.1).2 j q hj)) fr
  obtain ⟨t2, a1', b1⟩ := kk T'.heap (locs ++ L) ⟨p1, p2⟩ ⟨Nat.le_trans hS.1 (by rw [e1, ← h0]; exact hF.1), fun q h1 h2 => by rw [fr q (Nat.lt_of_lt_of_le h1 hS.1) (fun z => h2 (z ▸ i1))]; exact hS.2.1 q h1 h2, fun q hq => by
      rcases List.mem_append.mp hq with h | h
      · exact hS.2.2 q h
      · exact (hL q h).elim (fun z => Or.inl (z ▸ i1)) (fun z => Or.inr (z ▸ i2))⟩ T' rfl X'
  exact ⟨t2, st t2 a1', b1⟩
theorem tw_f7 (hx : p.tables.exec = Jvm.exec) (hb : c.code = cc) (hml : c.maxLocals = nL) (hts : ∀ w ∈ c0 :: W0, w.before args s = true) (hown : s.vm.findClass RX2 = some m.cls) (hK : va_K D vwCl [(cI, .int)] s) (hP : twP D cI o1 a1 σ1 o2 a2 σ2 H) (hD : twD o1 a1 o2 a2) (hS : twS o1 a1 o2 a2 H0 H locs) (hR : rm_X2_fill.frames + 1 ≤ R.frames ∧ 8 + (2 + 11) + rm_X2_fill.locals ≤ R.locals) (hsize : ls.size = nL) (d : decode cc pc = .ok (.invokestatic 67, 3)) (hc : cells ≤ R.cells) (hs : slots ≤ R.slots) (hW : (rest.map fun v => v.category).sum ≤ 8) (kk : ∀ (H1 : Heap) (locs1 : List Loc), twP D cI o1 a1 (va_up σ1 7 (cpF 6 (σ1 7) (σ2 7))) o2 a2 σ2 H1 → twS o1 a1 o2 a2 H0 H1 locs1 → W p l e R s m args below meth c H1 locs1 cells slots Q (F0 m (pc + 3) ls rest)) : W p l e R s m args below meth c H locs cells slots Q (F0 m pc ls (.ref (a2 7) :: .ref (a1 7) :: rest)) := by
  have i1 : shA o1 a1 (a1 7) := shA_in (n := 4) (by decide)
  have i2 : shA o2 a2 (a2 7) := shA_in (n := 4) (by decide)
  have hne : a1 7 ≠ a2 7 := fun z => hD.2.2 _ i1 (z ▸ i2)
  have hPc : va_P D vwCl [(a1 7, .inl (cI, 6, .inl (σ1 7))), (a2 7, .inl (cI, 6, .inl (σ2 7)))] H := by
    intro j q hq
    match j, hq with
    | 0, hq => cases hq; exact hP.1 4 _ rfl
    | 1, hq => cases hq; exact hP.2 4 _ rfl
    | j + 2, hq => cases hq
  have hr := va_runS (As := [.ref (a1 7), .ref (a2 7)]) (rest := rest) (locs := locs) (slots := slots) (below := below) (meth := meth) (p := p) (e := e) (own := RX2) ⟨hx, hb, hml, hown, hts⟩ (c_X2_fill l D cI (a1 7) (a2 7) 6 (σ1 7) (σ2 7) (by decide)) (kS_X2_fill hts ml_X2_67 hR) ⟨fl_blind, fun U hU hW => ⟨rfl, by rw [hU]; exact hPc, va_K.moved hW.alike hK, hne⟩⟩ (g := F0 m pc ls (.ref (a2 7) :: .ref (a1 7) :: rest)) rfl rfl hsize rfl (lv_room hW) d ⟨hc, hs⟩
  intro T hT X
  obtain ⟨v1, st₀, t, T', L, h0, X', hL, e1, e2, ⟨hv, hp, hF⟩, st⟩ := hr T hT X
  cases hv
  have fr : ∀ q : Nat, q < H.size → q ≠ a1 7 → T'.heap[q]? = H[q]? := fun q hq hn => by rw [e1, hF.2 q (by rw [h0]; exact hq) hn, h0]
  have p1 : va_P D vwCl (shW cI o1 a1 (va_up σ1 7 (cpF 6 (σ1 7) (σ2 7)))) T'.heap := setP (a := a1 7) (p := 4) (e := .inl (cI, 6, .inl (cpF 6 (σ1 7) (σ2 7)))) hP.1 (shD_of (cI := cI) (σ := σ1) hD.1) rfl (by rw [e1]; exact hp 0 _ rfl) fr
  have p2 : va_P D vwCl (shW cI o2 a2 σ2) T'.heap := keepP (A := fun q => q = a1 7) hP.2 (fun j q hj hq => hD.2.2 _ i1 (hq ▸ (shD_of (cI := cI) (σ := σ2) hD.2.1).2 j q hj)) fr
  obtain ⟨t2, a1', b1⟩ := kk T'.heap (locs ++ L) ⟨p1, p2⟩ ⟨Nat.le_trans hS.1 (by rw [e1, ← h0]; exact hF.1), fun q h1 h2 => by rw [fr q (Nat.lt_of_lt_of_le h1 hS.1) (fun z => h2 (z ▸ i1))]; exact hS.2.1 q h1 h2, fun q hq => by
      rcases List.mem_append.mp hq with h | h
      · exact hS.2.2 q h
      · exact (hL q h).elim (fun z => Or.inl (z ▸ i1)) (fun z => Or.inr (z ▸ i2))⟩ T' rfl X'
  exact ⟨t2, st t2 a1', b1⟩
theorem tw_f8 (hx : p.tables.exec = Jvm.exec) (hb : c.code = cc) (hml : c.maxLocals = nL) (hts : ∀ w ∈ c0 :: W0, w.before args s = true) (hown : s.vm.findClass RX2 = some m.cls) (hK : va_K D vwCl [(cI, .int)] s) (hP : twP D cI o1 a1 σ1 o2 a2 σ2 H) (hD : twD o1 a1 o2 a2) (hS : twS o1 a1 o2 a2 H0 H locs) (hR : rm_X2_fill.frames + 1 ≤ R.frames ∧ 8 + (2 + 11) + rm_X2_fill.locals ≤ R.locals) (hsize : ls.size = nL) (d : decode cc pc = .ok (.invokestatic 67, 3)) (hc : cells ≤ R.cells) (hs : slots ≤ R.slots) (hW : (rest.map fun v => v.category).sum ≤ 8) (kk : ∀ (H1 : Heap) (locs1 : List Loc), twP D cI o1 a1 (va_up σ1 8 (cpF 6 (σ1 8) (σ2 8))) o2 a2 σ2 H1 → twS o1 a1 o2 a2 H0 H1 locs1 → W p l e R s m args below meth c H1 locs1 cells slots Q (F0 m (pc + 3) ls rest)) : W p l e R s m args below meth c H locs cells slots Q (F0 m pc ls (.ref (a2 8) :: .ref (a1 8) :: rest)) := by
  have i1 : shA o1 a1 (a1 8) := shA_in (n := 5) (by decide)
  have i2 : shA o2 a2 (a2 8) := shA_in (n := 5) (by decide)
  have hne : a1 8 ≠ a2 8 := fun z => hD.2.2 _ i1 (z ▸ i2)
  have hPc : va_P D vwCl [(a1 8, .inl (cI, 6, .inl (σ1 8))), (a2 8, .inl (cI, 6, .inl (σ2 8)))] H := by
    intro j q hq
    match j, hq with
    | 0, hq => cases hq; exact hP.1 5 _ rfl
    | 1, hq => cases hq; exact hP.2 5 _ rfl
    | j + 2, hq => cases hq
  have hr := va_runS (As := [.ref (a1 8), .ref (a2 8)]) (rest := rest) (locs := locs) (slots := slots) (below := below) (meth := meth) (p := p) (e := e) (own := RX2) ⟨hx, hb, hml, hown, hts⟩ (c_X2_fill l D cI (a1 8) (a2 8) 6 (σ1 8) (σ2 8) (by decide)) (kS_X2_fill hts ml_X2_67 hR) ⟨fl_blind, fun U hU hW => ⟨rfl, by rw [hU]; exact hPc, va_K.moved hW.alike hK, hne⟩⟩ (g := F0 m pc ls (.ref (a2 8) :: .ref (a1 8) :: rest)) rfl rfl hsize rfl (lv_room hW) d ⟨hc, hs⟩
  intro T hT X
  obtain ⟨v1, st₀, t, T', L, h0, X', hL, e1, e2, ⟨hv, hp, hF⟩, st⟩ := hr T hT X
  cases hv
  have fr : ∀ q : Nat, q < H.size → q ≠ a1 8 → T'.heap[q]? = H[q]? := fun q hq hn => by rw [e1, hF.2 q (by rw [h0]; exact hq) hn, h0]
  have p1 : va_P D vwCl (shW cI o1 a1 (va_up σ1 8 (cpF 6 (σ1 8) (σ2 8)))) T'.heap := setP (a := a1 8) (p := 5) (e := .inl (cI, 6, .inl (cpF 6 (σ1 8) (σ2 8)))) hP.1 (shD_of (cI := cI) (σ := σ1) hD.1) rfl (by rw [e1]; exact hp 0 _ rfl) fr
  have p2 : va_P D vwCl (shW cI o2 a2 σ2) T'.heap := keepP (A := fun q => q = a1 8) hP.2 (fun j q hj hq => hD.2.2 _ i1 (hq ▸ (shD_of (cI := cI) (σ := σ2) hD.2.1).2 j q hj)) fr
  obtain ⟨t2, a1', b1⟩ := kk T'.heap (locs ++ L) ⟨p1, p2⟩ ⟨Nat.le_trans hS.1 (by rw [e1, ← h0]; exact hF.1), fun q h1 h2 => by rw [fr q (Nat.lt_of_lt_of_le h1 hS.1) (fun z => h2 (z ▸ i1))]; exact hS.2.1 q h1 h2, fun q hq => by
      rcases List.mem_append.mp hq with h | h
      · exact hS.2.2 q h
      · exact (hL q h).elim (fun z => Or.inl (z ▸ i1)) (fun z => Or.inr (z ▸ i2))⟩ T' rfl X'
  exact ⟨t2, st t2 a1', b1⟩
theorem tw_f9 (hx : p.tables.exec = Jvm.exec) (hb : c.code = cc) (hml : c.maxLocals = nL) (hts : ∀ w ∈ c0 :: W0, w.before args s = true) (hown : s.vm.findClass RX2 = some m.cls) (hK : va_K D vwCl [(cI, .int)] s) (hP : twP D cI o1 a1 σ1 o2 a2 σ2 H) (hD : twD o1 a1 o2 a2) (hS : twS o1 a1 o2 a2 H0 H locs) (hR : rm_X2_fill.frames + 1 ≤ R.frames ∧ 8 + (2 + 11) + rm_X2_fill.locals ≤ R.locals) (hsize : ls.size = nL) (d : decode cc pc = .ok (.invokestatic 67, 3)) (hc : cells ≤ R.cells) (hs : slots ≤ R.slots) (hW : (rest.map fun v => v.category).sum ≤ 8) (kk : ∀ (H1 : Heap) (locs1 : List Loc), twP D cI o1 a1 (va_up σ1 9 (cpF 6 (σ1 9) (σ2 9))) o2 a2 σ2 H1 → twS o1 a1 o2 a2 H0 H1 locs1 → W p l e R s m args below meth c H1 locs1 cells slots Q (F0 m (pc + 3) ls rest)) : W p l e R s m args below meth c H locs cells slots Q (F0 m pc ls (.ref (a2 9) :: .ref (a1 9) :: rest)) := by
  have i1 : shA o1 a1 (a1 9) := shA_in (n := 6) (by decide)
  have i2 : shA o2 a2 (a2 9) := shA_in (n := 6) (by decide)
  have hne : a1 9 ≠ a2 9 := fun z => hD.2.2 _ i1 (z ▸ i2)
  have hPc : va_P D vwCl [(a1 9, .inl (cI, 6, .inl (σ1 9))), (a2 9, .inl (cI, 6, .inl (σ2 9)))] H := by
    intro j q hq
    match j, hq with
    | 0, hq => cases hq; exact hP.1 6 _ rfl
    | 1, hq => cases hq; exact hP.2 6 _ rfl
    | j + 2, hq => cases hq
  have hr := va_runS (As := [.ref (a1 9), .ref (a2 9)]) (rest := rest) (locs := locs) (slots := slots) (below := below) (meth := meth) (p := p) (e := e) (own := RX2) ⟨hx, hb, hml, hown, hts⟩ (c_X2_fill l D cI (a1 9) (a2 9) 6 (σ1 9) (σ2 9) (by decide)) (kS_X2_fill hts ml_X2_67 hR) ⟨fl_blind, fun U hU hW => ⟨rfl, by rw [hU]; exact hPc, va_K.moved hW.alike hK, hne⟩⟩ (g := F0 m pc ls (.ref (a2 9) :: .ref (a1 9) :: rest)) rfl rfl hsize rfl (lv_room hW) d ⟨hc, hs⟩
  intro T hT X
  obtain ⟨v1, st₀, t, T', L, h0, X', hL, e1, e2, ⟨hv, hp, hF⟩, st⟩ := hr T hT X
  cases hv
  have fr : ∀ q : Nat, q < H.size → q ≠ a1 9 → T'.heap[q]? = H[q]? := fun q hq hn => by rw [e1, hF.2 q (by rw [h0]; exact hq) hn, h0]
  have p1 : va_P D vwCl (shW cI o1 a1 (va_up σ1 9 (cpF 6 (σ1 9) (σ2 9)))) T'.heap := setP (a := a1 9) (p := 6) (e := .inl (cI, 6, .inl (cpF 6 (σ1 9) (σ2 9)))) hP.1 (shD_of (cI := cI) (σ := σ1) hD.1) rfl (by rw [e1]; exact hp 0 _ rfl) fr
  have p2 : va_P D vwCl (shW cI o2 a2 σ2) T'.heap := keepP (A := fun q => q = a1 9) hP.2 (fun j q hj hq => hD.2.2 _ i1 (hq ▸ (shD_of (cI := cI) (σ := σ2) hD.2.1).2 j q hj)) fr
  obtain ⟨t2, a1', b1⟩ := kk T'.heap (locs ++ L) ⟨p1, p2⟩ ⟨Nat.le_trans hS.1 (by rw [e1, ← h0]; exact hF.1), fun q h1 h2 => by rw [fr q (Nat.lt_of_lt_of_le h1 hS.1) (fun z => h2 (z ▸ i1))]; exact hS.2.1 q h1 h2, fun q hq => by
      rcases List.mem_append.mp hq with h | h
      · exact hS.2.2 q h
      · exact (hL q h).elim (fun z => Or.inl (z ▸ i1)) (fun z => Or.inr (z ▸ i2))⟩ T' rfl X'
  exact ⟨t2, st t2 a1', b1⟩
theorem tw_f10 (hx : p.tables.exec = Jvm.exec) (hb : c.code = cc) (hml : c.maxLocals = nL) (hts : ∀ w ∈ c0 :: W0, w.before args s = true) (hown : s.vm.findClass RX2 = some m.cls) (hK : va_K D vwCl [(cI, .int)] s) (hP : twP D cI o1 a1 σ1 o2 a2 σ2 H) (hD : twD o1 a1 o2 a2) (hS : twS o1 a1 o2 a2 H0 H locs) (hR : rm_X2_fill.frames + 1 ≤ R.frames ∧ 8 + (2 + 11) + rm_X2_fill.locals ≤ R.locals) (hsize : ls.size = nL) (d : decode cc pc = .ok (.invokestatic 67, 3)) (hc : cells ≤ R.cells) (hs : slots ≤ R.slots) (hW : (rest.map fun v => v.category).sum ≤ 8) (kk : ∀ (H1 : Heap) (locs1 : List Loc), twP D cI o1 a1 (va_up σ1 10 (cpF 60 (σ1 10) (σ2 10))) o2 a2 σ2 H1 → twS o1 a1 o2 a2 H0 H1 locs1 → W p l e R s m args below meth c H1 locs1 cells slots Q (F0 m (pc + 3) ls rest)) : W p l e R s m args below meth c H locs cells slots Q (F0 m pc ls (.ref (a2 10) :: .ref (a1 10) :: rest)) := by
  have i1 : shA o1 a1 (a1 10) := shA_in (n := 7) (by decide)
  have i2 : shA o2 a2 (a2 10) := shA_in (n := 7) (by decide)
  have hne : a1 10 ≠ a2 10 := fun z => hD.2.2 _ i1 (z ▸ i2)
  have hPc : va_P D vwCl [(a1 10, .inl (cI, 60, .inl (σ1 10))), (a2 10, .inl (cI, 60, .inl (σ2 10)))] H := by
    intro j q hq
    match j, hq with
    | 0, hq => cases hq; exact hP.1 7 _ rfl
    | 1, hq => cases hq; exact hP.2 7 _ rfl
    | j + 2, hq => cases hq
  have hr := va_runS (As := [.ref (a1 10), .ref (a2 10)]) (rest := rest) (locs := locs) (slots := slots) (below := below) (meth := meth) (p := p) (e := e) (own := RX2) ⟨hx, hb, hml, hown, hts⟩ (c_X2_fill l D cI (a1 10) (a2 10) 60 (σ1 10) (σ2 10) (by decide)) (kS_X2_fill hts ml_X2_67 hR) ⟨fl_blind, fun U hU hW => ⟨rfl, by rw [hU]; exact hPc, va_K.moved hW.alike hK, hne⟩⟩ (g := F0 m pc ls (.ref (a2 10) :: .ref (a1 10) :: rest)) rfl rfl hsize rfl (lv_room hW) d ⟨hc, hs⟩
  intro T hT X
  obtain ⟨v1, st₀, t, T', L, h0, X', hL, e1, e2, ⟨hv, hp, hF⟩, st⟩ := hr T hT X
  cases hv
  have fr : ∀ q : Nat, q < H.size → q ≠ a1 10 → T'.heap[q]? = H[q]? := fun q hq hn => by rw [e1, hF.2 q (by rw [h0]; exact hq) hn, h0]
  have p1 : va_P D vwCl (shW cI o1 a1 (va_up σ1 10 (cpF 60 (σ1 10) (σ2 10)))) T'.heap := setP (a := a1 10) (p := 7) (e := .inl (cI, 60, .inl (cpF 60 (σ1 10) (σ2 10)))) hP.1 (shD_of (cI := cI) (σ := σ1) hD.1) rfl (by rw [e1]; exact hp 0 _ rfl) fr
  have p2 : va_P D vwCl (shW cI o2 a2 σ2) T'.heap := keepP (A := fun q => q = a1 10) hP.2 (fun j q hj hq => hD.2.2 _ i1 (hq ▸ (shD_of (cI := cI) (σ := σ2) hD.2.1).2 j q hj)) fr
  obtain ⟨t2, a1', b1⟩ := kk T'.heap (locs ++ L) ⟨p1, p2⟩ ⟨Nat.le_trans hS.1 (by rw [e1, ← h0]; exact hF.1), fun q h1 h2 => by rw [fr q (Nat.lt_of_lt_of_le h1 hS.1) (fun z => h2 (z ▸ i1))]; exact hS.2.1 q h1 h2, fun q hq => by
      rcases List.mem_append.mp hq with h | h
      · exact hS.2.2 q h
      · exact (hL q h).elim (fun z => Or.inl (z ▸ i1)) (fun z => Or.inr (z ▸ i2))⟩ T' rfl X'
  exact ⟨t2, st t2 a1', b1⟩
theorem tw_f11 (hx : p.tables.exec = Jvm.exec) (hb : c.code = cc) (hml : c.maxLocals = nL) (hts : ∀ w ∈ c0 :: W0, w.before args s = true) (hown : s.vm.findClass RX2 = some m.cls) (hK : va_K D vwCl [(cI, .int)] s) (hP : twP D cI o1 a1 σ1 o2 a2 σ2 H) (hD : twD o1 a1 o2 a2) (hS : twS o1 a1 o2 a2 H0 H locs) (hR : rm_X2_fill.frames + 1 ≤ R.frames ∧ 8 + (2 + 11) + rm_X2_fill.locals ≤ R.locals) (hsize : ls.size = nL) (d : decode cc pc = .ok (.invokestatic 67, 3)) (hc : cells ≤ R.cells) (hs : slots ≤ R.slots) (hW : (rest.map fun v => v.category).sum ≤ 8) (kk : ∀ (H1 : Heap) (locs1 : List Loc), twP D cI o1 a1 (va_up σ1 11 (cpF 60 (σ1 11) (σ2 11))) o2 a2 σ2 H1 → twS o1 a1 o2 a2 H0 H1 locs1 → W p l e R s m args below meth c H1 locs1 cells slots Q (F0 m (pc + 3) ls rest)) : W p l e R s m args below meth c H locs cells slots Q (F0 m pc ls (.ref (a2 11) :: .ref (a1 11) :: rest)) := by
  have i1 : shA o1 a1 (a1 11) := shA_in (n := 8) (by decide)
  have i2 : shA o2 a2 (a2 11) := shA_in (n := 8) (by decide)
  have hne : a1 11 ≠ a2 11 := fun z => hD.2.2 _ i1 (z ▸ i2)
  have hPc : va_P D vwCl [(a1 11, .inl (cI, 60, .inl (σ1 11))), (a2 11, .inl (cI, 60, .inl (σ2 11)))] H := by
    intro j q hq
    match j, hq with
    | 0, hq => cases hq; exact hP.1 8 _ rfl
    | 1, hq => cases hq; exact hP.2 8 _ rfl
    | j + 2, hq => cases hq
  have hr := va_runS (As := [.ref (a1 11), .ref (a2 11)]) (rest := rest) (locs := locs) (slots := slots) (below := below) (meth := meth) (p := p) (e := e) (own := RX2) ⟨hx, hb, hml, hown, hts⟩ (c_X2_fill l D cI (a1 11) (a2 11) 60 (σ1 11) (σ2 11) (by decide)) (kS_X2_fill hts ml_X2_67 hR) ⟨fl_blind, fun U hU hW => ⟨rfl, by rw [hU]; exact hPc, va_K.moved hW.alike hK, hne⟩⟩ (g := F0 m pc ls (.ref (a2 11) :: .ref (a1 11) :: rest)) rfl rfl hsize rfl (lv_room hW) d ⟨hc, hs⟩
  intro T hT X
  obtain ⟨v1, st₀, t, T', L, h0, X', hL, e1, e2, ⟨hv, hp, hF⟩, st⟩ := hr T hT X
  cases hv
  have fr : ∀ q : Nat, q < H.size → q ≠ a1 11 → T'.heap[q]? = H[q]? := fun q hq hn => by rw [e1, hF.2 q (by rw [h0]; exact hq) hn, h0]
  have p1 : va_P D vwCl (shW cI o1 a1 (va_up σ1 11 (cpF 60 (σ1 11) (σ2 11)))) T'.heap := setP (a := a1 11) (p := 8) (e := .inl (cI, 60, .inl (cpF 60 (σ1 11) (σ2 11)))) hP.1 (shD_of (cI := cI) (σ := σ1) hD.1) rfl (by rw [e1]; exact hp 0 _ rfl) fr
  have p2 : va_P D vwCl (shW cI o2 a2 σ2) T'.heap := keepP (A := fun q => q = a1 11) hP.2 (fun j q hj hq => hD.2.2 _ i1 (hq ▸ (shD_of (cI := cI) (σ := σ2) hD.2.1).2 j q hj)) fr
  obtain ⟨t2, a1', b1⟩ := kk T'.heap (locs ++ L) ⟨p1, p2⟩ ⟨Nat.le_trans hS.1 (by rw [e1, ← h0]; exact hF.1), fun q h1 h2 => by rw [fr q (Nat.lt_of_lt_of_le h1 hS.1) (fun z => h2 (z ▸ i1))]; exact hS.2.1 q h1 h2, fun q hq => by
      rcases List.mem_append.mp hq with h | h
      · exact hS.2.2 q h
      · exact (hL q h).elim (fun z => Or.inl (z ▸ i1)) (fun z => Or.inr (z ▸ i2))⟩ T' rfl X'
  exact ⟨t2, st t2 a1', b1⟩
theorem tw_f12 (hx : p.tables.exec = Jvm.exec) (hb : c.code = cc) (hml : c.maxLocals = nL) (hts : ∀ w ∈ c0 :: W0, w.before args s = true) (hown : s.vm.findClass RX2 = some m.cls) (hK : va_K D vwCl [(cI, .int)] s) (hP : twP D cI o1 a1 σ1 o2 a2 σ2 H) (hD : twD o1 a1 o2 a2) (hS : twS o1 a1 o2 a2 H0 H locs) (hR : rm_X2_fill.frames + 1 ≤ R.frames ∧ 8 + (2 + 11) + rm_X2_fill.locals ≤ R.locals) (hsize : ls.size = nL) (d : decode cc pc = .ok (.invokestatic 67, 3)) (hc : cells ≤ R.cells) (hs : slots ≤ R.slots) (hW : (rest.map fun v => v.category).sum ≤ 8) (kk : ∀ (H1 : Heap) (locs1 : List Loc), twP D cI o1 a1 (va_up σ1 12 (cpF 60 (σ1 12) (σ2 12))) o2 a2 σ2 H1 → twS o1 a1 o2 a2 H0 H1 locs1 → W p l e R s m args below meth c H1 locs1 cells slots Q (F0 m (pc + 3) ls rest)) : W p l e R s m args below meth c H locs cells slots Q (F0 m pc ls (.ref (a2 12) :: .ref (a1 12) :: rest)) := by
  have i1 : shA o1 a1 (a1 12) := shA_in (n := 9) (by decide)
  have i2 : shA o2 a2 (a2 12) := shA_in (n := 9) (by decide)
  have hne : a1 12 ≠ a2 12 := fun z => hD.2.2 _ i1 (z ▸ i2)
  have hPc : va_P D vwCl [(a1 12, .inl (cI, 60, .inl (σ1 12))), (a2 12, .inl (cI, 60, .inl (σ2 12)))] H := by
    intro j q hq
    match j, hq with
    | 0, hq => cases hq; exact hP.1 9 _ rfl
    | 1, hq => cases hq; exact hP.2 9 _ rfl
    | j + 2, hq => cases hq
  have hr := va_runS (As := [.ref (a1 12), .ref (a2 12)]) (rest := rest) (locs := locs) (slots := slots) (below := below) (meth := meth) (p := p) (e := e) (own := RX2) ⟨hx, hb, hml, hown, hts⟩ (c_X2_fill l D cI (a1 12) (a2 12) 60 (σ1 12) (σ2 12) (by decide)) (kS_X2_fill hts ml_X2_67 hR) ⟨fl_blind, fun U hU hW => ⟨rfl, by rw [hU]; exact hPc, va_K.moved hW.alike hK, hne⟩⟩ (g := F0 m pc ls (.ref (a2 12) :: .ref (a1 12) :: rest)) rfl rfl hsize rfl (lv_room hW) d ⟨hc, hs⟩
  intro T hT X
  obtain ⟨v1, st₀, t, T', L, h0, X', hL, e1, e2, ⟨hv, hp, hF⟩, st⟩ := hr T hT X
  cases hv
  have fr : ∀ q : Nat, q < H.size → q ≠ a1 12 → T'.heap[q]? = H[q]? := fun q hq hn => by rw [e1, hF.2 q (by rw [h0]; exact hq) hn, h0]
  have p1 : va_P D vwCl (shW cI o1 a1 (va_up σ1 12 (cpF 60 (σ1 12) (σ2 12)))) T'.heap := setP (a := a1 12) (p := 9) (e := .inl (cI, 60, .inl (cpF 60 (σ1 12) (σ2 12)))) hP.1 (shD_of (cI := cI) (σ := σ1) hD.1) rfl (by rw [e1]; exact hp 0 _ rfl) fr
  have p2 : va_P D vwCl (shW cI o2 a2 σ2) T'.heap := keepP (A := fun q => q = a1 12) hP.2 (fun j q hj hq => hD.2.2 _ i1 (hq ▸ (shD_of (cI := cI) (σ := σ2) hD.2.1).2 j q hj)) fr
  obtain ⟨t2, a1', b1⟩ := kk T'.heap (locs ++ L) ⟨p1, p2⟩ ⟨Nat.le_trans hS.1 (by rw [e1, ← h0]; exact hF.1), fun q h1 h2 => by rw [fr q (Nat.lt_of_lt_of_le h1 hS.1) (fun z => h2 (z ▸ i1))]; exact hS.2.1 q h1 h2, fun q hq => by
      rcases List.mem_append.mp hq with h | h
      · exact hS.2.2 q h
      · exact (hL q h).elim (fun z => Or.inl (z ▸ i1)) (fun z => Or.inr (z ▸ i2))⟩ T' rfl X'
  exact ⟨t2, st t2 a1', b1⟩
theorem tw_f13 (hx : p.tables.exec = Jvm.exec) (hb : c.code = cc) (hml : c.maxLocals = nL) (hts : ∀ w ∈ c0 :: W0, w.before args s = true) (hown : s.vm.findClass RX2 = some m.cls) (hK : va_K D vwCl [(cI, .int)] s) (hP : twP D cI o1 a1 σ1 o2 a2 σ2 H) (hD : twD o1 a1 o2 a2) (hS : twS o1 a1 o2 a2 H0 H locs) (hR : rm_X2_fill.frames + 1 ≤ R.frames ∧ 8 + (2 + 11) + rm_X2_fill.locals ≤ R.locals) (hsize : ls.size = nL) (d : decode cc pc = .ok (.invokestatic 67, 3)) (hc : cells ≤ R.cells) (hs : slots ≤ R.slots) (hW : (rest.map fun v => v.category).sum ≤ 8) (kk : ∀ (H1 : Heap) (locs1 : List Loc), twP D cI o1 a1 (va_up σ1 13 (cpF 60 (σ1 13) (σ2 13))) o2 a2 σ2 H1 → twS o1 a1 o2 a2 H0 H1 locs1 → W p l e R s m args below meth c H1 locs1 cells slots Q (F0 m (pc + 3) ls rest)) : W p l e R s m args below meth c H locs cells slots Q (F0 m pc ls (.ref (a2 13) :: .ref (a1 13) :: rest)) := by
  have i1 : shA o1 a1 (a1 13) := shA_in (n := 10) (by decide)
  have i2 : shA o2 a2 (a2 13) := shA_in (n := 10) (by decide)
  have hne : a1 13 ≠ a2 13 := fun z => hD.2.2 _ i1 (z ▸ i2)
  have hPc : va_P D vwCl [(a1 13, .inl (cI, 60, .inl (σ1 13))), (a2 13, .inl (cI, 60, .inl (σ2 13)))] H := by
    intro j q hq
    match j, hq with
    | 0, hq => cases hq; exact hP.1 10 _ rfl
    | 1, hq => cases hq; exact hP.2 10 _ rfl
    | j + 2, hq => cases hq
  have hr := va_runS (As := [.ref (a1 13), .ref (a2 13)]) (rest := rest) (locs := locs) (slots := slots) (below := below) (meth := meth) (p := p) (e := e) (own := RX2) ⟨hx, hb, hml, hown, hts⟩ (c_X2_fill l D cI (a1 13) (a2 13) 60 (σ1 13) (σ2 13) (by decide)) (kS_X2_fill hts ml_X2_67 hR) ⟨fl_blind, fun U hU hW => ⟨rfl, by rw [hU]; exact hPc, va_K.moved hW.alike hK, hne⟩⟩ (g := F0 m pc ls (.ref (a2 13) :: .ref (a1 13) :: rest)) rfl rfl hsize rfl (lv_room hW) d ⟨hc, hs⟩
  intro T hT X
  obtain ⟨v1, st₀, t, T', L, h0, X', hL, e1, e2, ⟨hv, hp, hF⟩, st⟩ := hr T hT X
  cases hv
  have fr : ∀ q : Nat, q < H.size → q ≠ a1 13 → T'.heap[q]? = H[q]? := fun q hq hn => by rw [e1, hF.2 q (by rw [h0]; exact hq) hn, h0]
  have p1 : va_P D vwCl (shW cI o1 a1 (va_up σ1 13 (cpF 60 (σ1 13) (σ2 13)))) T'.heap := setP (a := a1 13) (p := 10) (e := .inl (cI, 60, .inl (cpF 60 (σ1 13) (σ2 13)))) hP.1 (shD_of (cI := cI) (σ := σ1) hD.1) rfl (by rw [e1]; exact hp 0 _ rfl) fr
  have p2 : va_P D vwCl (shW cI o2 a2 σ2) T'.heap := keepP (A := fun q => q = a1 13) hP.2 (fun j q hj hq => hD.2.2 _ i1 (hq ▸ (shD_of (cI := cI) (σ := σ2) hD.2.1).2 j q hj)) fr
  obtain ⟨t2, a1', b1⟩ := kk T'.heap (locs ++ L) ⟨p1, p2⟩ ⟨Nat.le_trans hS.1 (by rw [e1, ← h0]; exact hF.1), fun q h1 h2 => by rw [fr q (Nat.lt_of_lt_of_le h1 hS.1) (fun z => h2 (z ▸ i1))]; exact hS.2.1 q h1 h2, fun q hq => by
      rcases List.mem_append.mp hq with h | h
      · exact hS.2.2 q h
      · exact (hL q h).elim (fun z => Or.inl (z ▸ i1)) (fun z => Or.inr (z ▸ i2))⟩ T' rfl X'
  exact ⟨t2, st t2 a1', b1⟩
theorem tw_f14 (hx : p.tables.exec = Jvm.exec) (hb : c.code = cc) (hml : c.maxLocals = nL) (hts : ∀ w ∈ c0 :: W0, w.before args s = true) (hown : s.vm.findClass RX2 = some m.cls) (hK : va_K D vwCl [(cI, .int)] s) (hP : twP D cI o1 a1 σ1 o2 a2 σ2 H) (hD : twD o1 a1 o2 a2) (hS : twS o1 a1 o2 a2 H0 H locs) (hR : rm_X2_fill.frames + 1 ≤ R.frames ∧ 8 + (2 + 11) + rm_X2_fill.locals ≤ R.locals) (hsize : ls.size = nL) (d : decode cc pc = .ok (.invokestatic 67, 3)) (hc : cells ≤ R.cells) (hs : slots ≤ R.slots) (hW : (rest.map fun v => v.category).sum ≤ 8) (kk : ∀ (H1 : Heap) (locs1 : List Loc), twP D cI o1 a1 (va_up σ1 14 (cpF 60 (σ1 14) (σ2 14))) o2 a2 σ2 H1 → twS o1 a1 o2 a2 H0 H1 locs1 → W p l e R s m args below meth c H1 locs1 cells slots Q (F0 m (pc + 3) ls rest)) : W p l e R s m args below meth c H locs cells slots Q (F0 m pc ls (.ref (a2 14) :: .ref (a1 14) :: rest)) := by
  have i1 : shA o1 a1 (a1 14) := shA_in (n := 11) (by decide)
  have i2 : shA o2 a2 (a2 14) := shA_in (n := 11) (by decide)
  have hne : a1 14 ≠ a2 14 := fun z => hD.2.2 _ i1 (z ▸ i2)
  have hPc : va_P D vwCl [(a1 14, .inl (cI, 60, .inl (σ1 14))), (a2 14, .inl (cI, 60, .inl (σ2 14)))] H := by
    intro j q hq
    match j, hq with
    | 0, hq => cases hq; exact hP.1 11 _ rfl
    | 1, hq => cases hq; exact hP.2 11 _ rfl
    | j + 2, hq => cases hq
  have hr := va_runS (As := [.ref (a1 14), .ref (a2 14)]) (rest := rest) (locs := locs) (slots := slots) (below := below) (meth := meth) (p := p) (e := e) (own := RX2) ⟨hx, hb, hml, hown, hts⟩ (c_X2_fill l D cI (a1 14) (a2 14) 60 (σ1 14) (σ2 14) (by decide)) (kS_X2_fill hts ml_X2_67 hR) ⟨fl_blind, fun U hU hW => ⟨rfl, by rw [hU]; exact hPc, va_K.moved hW.alike hK, hne⟩⟩ (g := F0 m pc ls (.ref (a2 14) :: .ref (a1 14) :: rest)) rfl rfl hsize rfl (lv_room hW) d ⟨hc, hs⟩
  intro T hT X
  obtain ⟨v1, st₀, t, T', L, h0, X', hL, e1, e2, ⟨hv, hp, hF⟩, st⟩ := hr T hT X
  cases hv
  have fr : ∀ q : Nat, q < H.size → q ≠ a1 14 → T'.heap[q]? = H[q]? := fun q hq hn => by rw [e1, hF.2 q (by rw [h0]; exact hq) hn, h0]
  have p1 : va_P D vwCl (shW cI o1 a1 (va_up σ1 14 (cpF 60 (σ1 14) (σ2 14)))) T'.heap := setP (a := a1 14) (p := 11) (e := .inl (cI, 60, .inl (cpF 60 (σ1 14) (σ2 14)))) hP.1 (shD_of (cI := cI) (σ := σ1) hD.1) rfl (by rw [e1]; exact hp 0 _ rfl) fr
  have p2 : va_P D vwCl (shW cI o2 a2 σ2) T'.heap := keepP (A := fun q => q = a1 14) hP.2 (fun j q hj hq => hD.2.2 _ i1 (hq ▸ (shD_of (cI := cI) (σ := σ2) hD.2.1).2 j q hj)) fr
  obtain ⟨t2, a1', b1⟩ := kk T'.heap (locs ++ L) ⟨p1, p2⟩ ⟨Nat.le_trans hS.1 (by rw [e1, ← h0]; exact hF.1), fun q h1 h2 => by rw [fr q (Nat.lt_of_lt_of_le h1 hS.1) (fun z => h2 (z ▸ i1))]; exact hS.2.1 q h1 h2, fun q hq => by
      rcases List.mem_append.mp hq with h | h
      · exact hS.2.2 q h
      · exact (hL q h).elim (fun z => Or.inl (z ▸ i1)) (fun z => Or.inr (z ▸ i2))⟩ T' rfl X'
  exact ⟨t2, st t2 a1', b1⟩
theorem tw_f15 (hx : p.tables.exec = Jvm.exec) (hb : c.code = cc) (hml : c.maxLocals = nL) (hts : ∀ w ∈ c0 :: W0, w.before args s = true) (hown : s.vm.findClass RX2 = some m.cls) (hK : va_K D vwCl [(cI, .int)] s) (hP : twP D cI o1 a1 σ1 o2 a2 σ2 H) (hD : twD o1 a1 o2 a2) (hS : twS o1 a1 o2 a2 H0 H locs) (hR : rm_X2_fill.frames + 1 ≤ R.frames ∧ 8 + (2 + 11) + rm_X2_fill.locals ≤ R.locals) (hsize : ls.size = nL) (d : decode cc pc = .ok (.invokestatic 67, 3)) (hc : cells ≤ R.cells) (hs : slots ≤ R.slots) (hW : (rest.map fun v => v.category).sum ≤ 8) (kk : ∀ (H1 : Heap) (locs1 : List Loc), twP D cI o1 a1 (va_up σ1 15 (cpF 60 (σ1 15) (σ2 15))) o2 a2 σ2 H1 → twS o1 a1 o2 a2 H0 H1 locs1 → W p l e R s m args below meth c H1 locs1 cells slots Q (F0 m (pc + 3) ls rest)) : W p l e R s m args below meth c H locs cells slots Q (F0 m pc ls (.ref (a2 15) :: .ref (a1 15) :: rest)) := by
  have i1 : shA o1 a1 (a1 15) := shA_in (n := 12) (by decide)
  have i2 : shA o2 a2 (a2 15) := shA_in (n := 12) (by decide)
  have hne : a1 15 ≠ a2 15 := fun z => hD.2.2 _ i1 (z ▸ i2)
  have hPc : va_P D vwCl [(a1 15, .inl (cI, 60, .inl (σ1 15))), (a2 15, .inl (cI, 60, .inl (σ2 15)))] H := by
    intro j q hq
    match j, hq with
    | 0, hq => cases hq; exact hP.1 12 _ rfl
    | 1, hq => cases hq; exact hP.2 12 _ rfl
    | j + 2, hq => cases hq
  have hr := va_runS (As := [.ref (a1 15), .ref (a2 15)]) (rest := rest) (locs := locs) (slots := slots) (below := below) (meth := meth) (p := p) (e := e) (own := RX2) ⟨hx, hb, hml, hown, hts⟩ (c_X2_fill l D cI (a1 15) (a2 15) 60 (σ1 15) (σ2 15) (by decide)) (kS_X2_fill hts ml_X2_67 hR) ⟨fl_blind, fun U hU hW => ⟨rfl, by rw [hU]; exact hPc, va_K.moved hW.alike hK, hne⟩⟩ (g := F0 m pc ls (.ref (a2 15) :: .ref (a1 15) :: rest)) rfl rfl hsize rfl (lv_room hW) d ⟨hc, hs⟩
  intro T hT X
  obtain ⟨v1, st₀, t, T', L, h0, X', hL, e1, e2, ⟨hv, hp, hF⟩, st⟩ := hr T hT X
  cases hv
  have fr : ∀ q : Nat, q < H.size → q ≠ a1 15 → T'.heap[q]? = H[q]? := fun q hq hn => by rw [e1, hF.2 q (by rw [h0]; exact hq) hn, h0]
  have p1 : va_P D vwCl (shW cI o1 a1 (va_up σ1 15 (cpF 60 (σ1 15) (σ2 15)))) T'.heap := setP (a := a1 15) (p := 12) (e := .inl (cI, 60, .inl (cpF 60 (σ1 15) (σ2 15)))) hP.1 (shD_of (cI := cI) (σ := σ1) hD.1) rfl (by rw [e1]; exact hp 0 _ rfl) fr
  have p2 : va_P D vwCl (shW cI o2 a2 σ2) T'.heap := keepP (A := fun q => q = a1 15) hP.2 (fun j q hj hq => hD.2.2 _ i1 (hq ▸ (shD_of (cI := cI) (σ := σ2) hD.2.1).2 j q hj)) fr
  obtain ⟨t2, a1', b1⟩ := kk T'.heap (locs ++ L) ⟨p1, p2⟩ ⟨Nat.le_trans hS.1 (by rw [e1, ← h0]; exact hF.1), fun q h1 h2 => by rw [fr q (Nat.lt_of_lt_of_le h1 hS.1) (fun z => h2 (z ▸ i1))]; exact hS.2.1 q h1 h2, fun q hq => by
      rcases List.mem_append.mp hq with h | h
      · exact hS.2.2 q h
      · exact (hL q h).elim (fun z => Or.inl (z ▸ i1)) (fun z => Or.inr (z ▸ i2))⟩ T' rfl X'
  exact ⟨t2, st t2 a1', b1⟩
theorem tw_f16 (hx : p.tables.exec = Jvm.exec) (hb : c.code = cc) (hml : c.maxLocals = nL) (hts : ∀ w ∈ c0 :: W0, w.before args s = true) (hown : s.vm.findClass RX2 = some m.cls) (hK : va_K D vwCl [(cI, .int)] s) (hP : twP D cI o1 a1 σ1 o2 a2 σ2 H) (hD : twD o1 a1 o2 a2) (hS : twS o1 a1 o2 a2 H0 H locs) (hR : rm_X2_fill.frames + 1 ≤ R.frames ∧ 8 + (2 + 11) + rm_X2_fill.locals ≤ R.locals) (hsize : ls.size = nL) (d : decode cc pc = .ok (.invokestatic 67, 3)) (hc : cells ≤ R.cells) (hs : slots ≤ R.slots) (hW : (rest.map fun v => v.category).sum ≤ 8) (kk : ∀ (H1 : Heap) (locs1 : List Loc), twP D cI o1 a1 (va_up σ1 16 (cpF 7 (σ1 16) (σ2 16))) o2 a2 σ2 H1 → twS o1 a1 o2 a2 H0 H1 locs1 → W p l e R s m args below meth c H1 locs1 cells slots Q (F0 m (pc + 3) ls rest)) : W p l e R s m args below meth c H locs cells slots Q (F0 m pc ls (.ref (a2 16) :: .ref (a1 16) :: rest)) := by
  have i1 : shA o1 a1 (a1 16) := shA_in (n := 13) (by decide)
  have i2 : shA o2 a2 (a2 16) := shA_in (n := 13) (by decide)
  have hne : a1 16 ≠ a2 16 := fun z => hD.2.2 _ i1 (z ▸ i2)
  have hPc : va_P D vwCl [(a1 16, .inl (cI, 7, .inl (σ1 16))), (a2 16, .inl (cI, 7, .inl (σ2 16)))] H := by
    intro j q hq
    match j, hq with
    | 0, hq => cases hq; exact hP.1 13 _ rfl
    | 1, hq => cases hq; exact hP.2 13 _ rfl
    | j + 2, hq => cases hq
  have hr := va_runS (As := [.ref (a1 16), .ref (a2 16)]) (rest := rest) (locs := locs) (slots := slots) (below := below) (meth := meth) (p := p) (e := e) (own := RX2) ⟨hx, hb, hml, hown, hts⟩ (c_X2_fill l D cI (a1 16) (a2 16) 7 (σ1 16) (σ2 16) (by decide)) (kS_X2_fill hts ml_X2_67 hR) ⟨fl_blind, fun U hU hW => ⟨rfl, by rw [hU]; exact hPc, va_K.moved hW.alike hK, hne⟩⟩ (g := F0 m pc ls (.ref (a2 16) :: .ref (a1 16) :: rest)) rfl rfl hsize rfl (lv_room hW) d ⟨hc, hs⟩
  intro T hT X
  obtain ⟨v1, st₀, t, T', L, h0, X', hL, e1, e2, ⟨hv, hp, hF⟩, st⟩ := hr T hT X
  cases hv
  have fr : ∀ q : Nat, q < H.size → q ≠ a1 16 → T'.heap[q]? = H[q]? := fun q hq hn => by rw [e1, hF.2 q (by rw [h0]; exact hq) hn, h0]
  have p1 : va_P D vwCl (shW cI o1 a1 (va_up σ1 16 (cpF 7 (σ1 16) (σ2 16)))) T'.heap := setP (a := a1 16) (p := 13) (e := .inl (cI, 7, .inl (cpF 7 (σ1 16) (σ2 16)))) hP.1 (shD_of (cI := cI) (σ := σ1) hD.1) rfl (by rw [e1]; exact hp 0 _ rfl) fr
  have p2 : va_P D vwCl (shW cI o2 a2 σ2) T'.heap := keepP (A := fun q => q = a1 16) hP.2 (fun j q hj hq => hD.2.2 _ i1 (hq ▸ (shD_of (cI := cI) (σ := σ2) hD.2.1).2 j q hj)) fr
  obtain ⟨t2, a1', b1⟩ := kk T'.heap (locs ++ L) ⟨p1, p2⟩ ⟨Nat.le_trans hS.1 (by rw [e1, ← h0]; exact hF.1), fun q h1 h2 => by rw [fr q (Nat.lt_of_lt_of_le h1 hS.1) (fun z => h2 (z ▸ i1))]; exact hS.2.1 q h1 h2, fun q hq => by
      rcases List.mem_append.mp hq with h | h
      · exact hS.2.2 q h
      · exact (hL q h).elim (fun z => Or.inl (z ▸ i1)) (fun z => Or.inr (z ▸ i2))⟩ T' rfl X'
  exact ⟨t2, st t2 a1', b1⟩
theorem tw_f17 (hx : p.tables.exec = Jvm.exec) (hb : c.code = cc) (hml : c.maxLocals = nL) (hts : ∀ w ∈ c0 :: W0, w.before args s = true) (hown : s.vm.findClass RX2 = some m.cls) (hK : va_K D vwCl [(cI, .int)] s) (hP : twP D cI o1 a1 σ1 o2 a2 σ2 H) (hD : twD o1 a1 o2 a2) (hS : twS o1 a1 o2 a2 H0 H locs) (hR : rm_X2_fill.frames + 1 ≤ R.frames ∧ 8 + (2 + 11) + rm_X2_fill.locals ≤ R.locals) (hsize : ls.size = nL) (d : decode cc pc = .ok (.invokestatic 67, 3)) (hc : cells ≤ R.cells) (hs : slots ≤ R.slots) (hW : (rest.map fun v => v.category).sum ≤ 8) (kk : ∀ (H1 : Heap) (locs1 : List Loc), twP D cI o1 a1 (va_up σ1 17 (cpF 8 (σ1 17) (σ2 17))) o2 a2 σ2 H1 → twS o1 a1 o2 a2 H0 H1 locs1 → W p l e R s m args below meth c H1 locs1 cells slots Q (F0 m (pc + 3) ls rest)) : W p l e R s m args below meth c H locs cells slots Q (F0 m pc ls (.ref (a2 17) :: .ref (a1 17) :: rest)) := by
  have i1 : shA o1 a1 (a1 17) := shA_in (n := 14) (by decide)
  have i2 : shA o2 a2 (a2 17) := shA_in (n := 14) (by decide)
  have hne : a1 17 ≠ a2 17 := fun z => hD.2.2 _ i1 (z ▸ i2)
  have hPc : va_P D vwCl [(a1 17, .inl (cI, 8, .inl (σ1 17))), (a2 17, .inl (cI, 8, .inl (σ2 17)))] H := by
    intro j q hq
    match j, hq with
    | 0, hq => cases hq; exact hP.1 14 _ rfl
    | 1, hq => cases hq; exact hP.2 14 _ rfl
    | j + 2, hq => cases hq
  have hr := va_runS (As := [.ref (a1 17), .ref (a2 17)]) (rest := rest) (locs := locs) (slots := slots) (below := below) (meth := meth) (p := p) (e := e) (own := RX2) ⟨hx, hb, hml, hown, hts⟩ (c_X2_fill l D cI (a1 17) (a2 17) 8 (σ1 17) (σ2 17) (by decide)) (kS_X2_fill hts ml_X2_67 hR) ⟨fl_blind, fun U hU hW => ⟨rfl, by rw [hU]; exact hPc, va_K.moved hW.alike hK, hne⟩⟩ (g := F0 m pc ls (.ref (a2 17) :: .ref (a1 17) :: rest)) rfl rfl hsize rfl (lv_room hW) d ⟨hc, hs⟩
  intro T hT X
  obtain ⟨v1, st₀, t, T', L, h0, X', hL, e1, e2, ⟨hv, hp, hF⟩, st⟩ := hr T hT X
  cases hv
  have fr : ∀ q : Nat, q < H.size → q ≠ a1 17 → T'.heap[q]? = H[q]? := fun q hq hn => by rw [e1, hF.2 q (by rw [h0]; exact hq) hn, h0]
  have p1 : va_P D vwCl (shW cI o1 a1 (va_up σ1 17 (cpF 8 (σ1 17) (σ2 17)))) T'.heap := setP (a := a1 17) (p := 14) (e := .inl (cI, 8, .inl (cpF 8 (σ1 17) (σ2 17)))) hP.1 (shD_of (cI := cI) (σ := σ1) hD.1) rfl (by rw [e1]; exact hp 0 _ rfl) fr
  have p2 : va_P D vwCl (shW cI o2 a2 σ2) T'.heap := keepP (A := fun q => q = a1 17) hP.2 (fun j q hj hq => hD.2.2 _ i1 (hq ▸ (shD_of (cI := cI) (σ := σ2) hD.2.1).2 j q hj)) fr
  obtain ⟨t2, a1', b1⟩ := kk T'.heap (locs ++ L) ⟨p1, p2⟩ ⟨Nat.le_trans hS.1 (by rw [e1, ← h0]; exact hF.1), fun q h1 h2 => by rw [fr q (Nat.lt_of_lt_of_le h1 hS.1) (fun z => h2 (z ▸ i1))]; exact hS.2.1 q h1 h2, fun q hq => by
      rcases List.mem_append.mp hq with h | h
      · exact hS.2.2 q h
      · exact (hL q h).elim (fun z => Or.inl (z ▸ i1)) (fun z => Or.inr (z ▸ i2))⟩ T' rfl X'
  exact ⟨t2, st t2 a1', b1⟩
end TW
abbrev rm_X2_becomeLike : Room := { frames := 2, cells := 0, slots := 0, locals := 121 }
set_option maxRecDepth 100000 in
theorem c_X2_becomeLike (l : Launch) (D : va_G) (cI : ClassId) (o1 : Nat) (a1 : Nat → Nat) (σ1 : Nat → Nat → Int32) (o2 : Nat) (a2 : Nat → Nat) (σ2 : Nat → Nat → Int32) :
    Met l yX2_becomeLike (Cond.code yX2_becomeLike cX2_becomeLike 2 (none) :: W0) rm_X2_becomeLike (va_Pc [.ref o1, .ref o2] (twM D cI o1 a1 σ1 o2 a2 σ2)) (twQ D cI o1 a1 (cpS σ2 σ1)) 0 0 (twF o1 a1 o2 a2) := by
  refine st_gen (cc := cX2_becomeLike) (maxL := 2) (ret := none) (own := RX2) (by decide) rfl (Nat.le_of_ble_eq_true rfl) ?_
  intro p e s m below meth c ls C hPre hl
  obtain ⟨hx, hb, hr, hml, hown, hts, hlk⟩ := C
  obtain ⟨hP, hK, hD⟩ := hPre
  have hl : lv_has ls 2 [(0, .ref o1), (1, .ref o2)] := hl
  have hS : twS o1 a1 o2 a2 s.heap s.heap [] := ⟨Nat.le_refl _, fun _ _ _ => rfl, fun q hq => absurd hq List.not_mem_nil⟩
  refine lv_aload_n hx hb dX2_becomeLike_0 rfl (lv_at hl 0 rfl) ?_
  refine lv_aload_n hx hb dX2_becomeLike_1 rfl (lv_at hl 1 rfl) ?_
  refine sh_g0 hx hb hts hown hK hP.2 (v := σ2 0 0) rfl dX2_becomeLike_2 ?_
  refine tw_p0 hx hb hts hown hK hP hD hS dX2_becomeLike_5 (fun H locs hP hS => ?_)
  refine lv_aload_n hx hb dX2_becomeLike_8 rfl (lv_at hl 0 rfl) ?_
  refine lv_aload_n hx hb dX2_becomeLike_9 rfl (lv_at hl 1 rfl) ?_
  refine sh_g1 hx hb hts hown hK hP.2 (v := σ2 1 0) rfl dX2_becomeLike_10 ?_
  refine tw_p1 hx hb hts hown hK hP hD hS dX2_becomeLike_13 (fun H locs hP hS => ?_)
  refine lv_aload_n hx hb dX2_becomeLike_16 rfl (lv_at hl 0 rfl) ?_
  refine lv_aload_n hx hb dX2_becomeLike_17 rfl (lv_at hl 1 rfl) ?_
  refine sh_g2 hx hb hts hown hK hP.2 (v := σ2 2 0) rfl dX2_becomeLike_18 ?_
  refine tw_p2 hx hb hts hown hK hP hD hS dX2_becomeLike_21 (fun H locs hP hS => ?_)
  refine lv_aload_n hx hb dX2_becomeLike_24 rfl (lv_at hl 0 rfl) ?_
  refine lv_aload_n hx hb dX2_becomeLike_25 rfl (lv_at hl 1 rfl) ?_
  refine sh_g3 hx hb hts hown hK hP.2 (v := σ2 3 0) rfl dX2_becomeLike_26 ?_
  refine tw_p3 hx hb hts hown hK hP hD hS dX2_becomeLike_29 (fun H locs hP hS => ?_)
  refine lv_aload_n hx hb dX2_becomeLike_32 rfl (lv_at hl 0 rfl) ?_
  refine sh_g4 hx hb hts hown hK hP.1 dX2_becomeLike_33 ?_
  refine lv_aload_n hx hb dX2_becomeLike_36 rfl (lv_at hl 1 rfl) ?_
  refine sh_g4 hx hb hts hown hK hP.2 dX2_becomeLike_37 ?_
  refine tw_f4 hx hb hml hts hown hK hP hD hS ⟨Nat.le_of_ble_eq_true rfl, Nat.le_of_ble_eq_true rfl⟩ hl.1 dX2_becomeLike_40 (Nat.zero_le _) (Nat.zero_le _) (Nat.le_of_ble_eq_true rfl) (fun H locs hP hS => ?_)
  refine lv_aload_n hx hb dX2_becomeLike_43 rfl (lv_at hl 0 rfl) ?_
  refine sh_g5 hx hb hts hown hK hP.1 dX2_becomeLike_44 ?_
  refine lv_aload_n hx hb dX2_becomeLike_47 rfl (lv_at hl 1 rfl) ?_
  refine sh_g5 hx hb hts hown hK hP.2 dX2_becomeLike_48 ?_
  refine tw_f5 hx hb hml hts hown hK hP hD hS ⟨Nat.le_of_ble_eq_true rfl, Nat.le_of_ble_eq_true rfl⟩ hl.1 dX2_becomeLike_51 (Nat.zero_le _) (Nat.zero_le _) (Nat.le_of_ble_eq_true rfl) (fun H locs hP hS => ?_)
  refine lv_aload_n hx hb dX2_becomeLike_54 rfl (lv_at hl 0 rfl) ?_
  refine sh_g6 hx hb hts hown hK hP.1 dX2_becomeLike_55 ?_
  refine lv_aload_n hx hb dX2_becomeLike_58 rfl (lv_at hl 1 rfl) ?_
  refine sh_g6 hx hb hts hown hK hP.2 dX2_becomeLike_59 ?_
  refine tw_f6 hx hb hml hts hown hK hP hD hS ⟨Nat.le_of_ble_eq_true rfl, Nat.le_of_ble_eq_true rfl⟩ hl.1 dX2_becomeLike_62 (Nat.zero_le _) (Nat.zero_le _) (Nat.le_of_ble_eq_true rfl) (fun H locs hP hS => ?_)
  refine lv_aload_n hx hb dX2_becomeLike_65 rfl (lv_at hl 0 rfl) ?_
  refine sh_g7 hx hb hts hown hK hP.1 dX2_becomeLike_66 ?_
  refine lv_aload_n hx hb dX2_becomeLike_69 rfl (lv_at hl 1 rfl) ?_
  refine sh_g7 hx hb hts hown hK hP.2 dX2_becomeLike_70 ?_
  refine tw_f7 hx hb hml hts hown hK hP hD hS ⟨Nat.le_of_ble_eq_true rfl, Nat.le_of_ble_eq_true rfl⟩ hl.1 dX2_becomeLike_73 (Nat.zero_le _) (Nat.zero_le _) (Nat.le_of_ble_eq_true rfl) (fun H locs hP hS => ?_)
  refine lv_aload_n hx hb dX2_becomeLike_76 rfl (lv_at hl 0 rfl) ?_
  refine sh_g8 hx hb hts hown hK hP.1 dX2_becomeLike_77 ?_
  refine lv_aload_n hx hb dX2_becomeLike_80 rfl (lv_at hl 1 rfl) ?_
  refine sh_g8 hx hb hts hown hK hP.2 dX2_becomeLike_81 ?_
  refine tw_f8 hx hb hml hts hown hK hP hD hS ⟨Nat.le_of_ble_eq_true rfl, Nat.le_of_ble_eq_true rfl⟩ hl.1 dX2_becomeLike_84 (Nat.zero_le _) (Nat.zero_le _) (Nat.le_of_ble_eq_true rfl) (fun H locs hP hS => ?_)
  refine lv_aload_n hx hb dX2_becomeLike_87 rfl (lv_at hl 0 rfl) ?_
  refine sh_g9 hx hb hts hown hK hP.1 dX2_becomeLike_88 ?_
  refine lv_aload_n hx hb dX2_becomeLike_91 rfl (lv_at hl 1 rfl) ?_
  refine sh_g9 hx hb hts hown hK hP.2 dX2_becomeLike_92 ?_
  refine tw_f9 hx hb hml hts hown hK hP hD hS ⟨Nat.le_of_ble_eq_true rfl, Nat.le_of_ble_eq_true rfl⟩ hl.1 dX2_becomeLike_95 (Nat.zero_le _) (Nat.zero_le _) (Nat.le_of_ble_eq_true rfl) (fun H locs hP hS => ?_)
  refine lv_aload_n hx hb dX2_becomeLike_98 rfl (lv_at hl 0 rfl) ?_
  refine sh_g10 hx hb hts hown hK hP.1 dX2_becomeLike_99 ?_
  refine lv_aload_n hx hb dX2_becomeLike_102 rfl (lv_at hl 1 rfl) ?_
  refine sh_g10 hx hb hts hown hK hP.2 dX2_becomeLike_103 ?_
  refine tw_f10 hx hb hml hts hown hK hP hD hS ⟨Nat.le_of_ble_eq_true rfl, Nat.le_of_ble_eq_true rfl⟩ hl.1 dX2_becomeLike_106 (Nat.zero_le _) (Nat.zero_le _) (Nat.le_of_ble_eq_true rfl) (fun H locs hP hS => ?_)
  refine lv_aload_n hx hb dX2_becomeLike_109 rfl (lv_at hl 0 rfl) ?_
  refine sh_g11 hx hb hts hown hK hP.1 dX2_becomeLike_110 ?_
  refine lv_aload_n hx hb dX2_becomeLike_113 rfl (lv_at hl 1 rfl) ?_
  refine sh_g11 hx hb hts hown hK hP.2 dX2_becomeLike_114 ?_
  refine tw_f11 hx hb hml hts hown hK hP hD hS ⟨Nat.le_of_ble_eq_true rfl, Nat.le_of_ble_eq_true rfl⟩ hl.1 dX2_becomeLike_117 (Nat.zero_le _) (Nat.zero_le _) (Nat.le_of_ble_eq_true rfl) (fun H locs hP hS => ?_)
  refine lv_aload_n hx hb dX2_becomeLike_120 rfl (lv_at hl 0 rfl) ?_
  refine sh_g12 hx hb hts hown hK hP.1 dX2_becomeLike_121 ?_
  refine lv_aload_n hx hb dX2_becomeLike_124 rfl (lv_at hl 1 rfl) ?_
  refine sh_g12 hx hb hts hown hK hP.2 dX2_becomeLike_125 ?_
  refine tw_f12 hx hb hml hts hown hK hP hD hS ⟨Nat.le_of_ble_eq_true rfl, Nat.le_of_ble_eq_true rfl⟩ hl.1 dX2_becomeLike_128 (Nat.zero_le _) (Nat.zero_le _) (Nat.le_of_ble_eq_true rfl) (fun H locs hP hS => ?_)
  refine lv_aload_n hx hb dX2_becomeLike_131 rfl (lv_at hl 0 rfl) ?_
  refine sh_g13 hx hb hts hown hK hP.1 dX2_becomeLike_132 ?_
  refine lv_aload_n hx hb dX2_becomeLike_135 rfl (lv_at hl 1 rfl) ?_
  refine sh_g13 hx hb hts hown hK hP.2 dX2_becomeLike_136 ?_
  refine tw_f13 hx hb hml hts hown hK hP hD hS ⟨Nat.le_of_ble_eq_true rfl, Nat.le_of_ble_eq_true rfl⟩ hl.1 dX2_becomeLike_139 (Nat.zero_le _) (Nat.zero_le _) (Nat.le_of_ble_eq_true rfl) (fun H locs hP hS => ?_)
  refine lv_aload_n hx hb dX2_becomeLike_142 rfl (lv_at hl 0 rfl) ?_
  refine sh_g14 hx hb hts hown hK hP.1 dX2_becomeLike_143 ?_
  refine lv_aload_n hx hb dX2_becomeLike_146 rfl (lv_at hl 1 rfl) ?_
  refine sh_g14 hx hb hts hown hK hP.2 dX2_becomeLike_147 ?_
  refine tw_f14 hx hb hml hts hown hK hP hD hS ⟨Nat.le_of_ble_eq_true rfl, Nat.le_of_ble_eq_true rfl⟩ hl.1 dX2_becomeLike_150 (Nat.zero_le _) (Nat.zero_le _) (Nat.le_of_ble_eq_true rfl) (fun H locs hP hS => ?_)
  refine lv_aload_n hx hb dX2_becomeLike_153 rfl (lv_at hl 0 rfl) ?_
  refine sh_g15 hx hb hts hown hK hP.1 dX2_becomeLike_154 ?_
  refine lv_aload_n hx hb dX2_becomeLike_157 rfl (lv_at hl 1 rfl) ?_
  refine sh_g15 hx hb hts hown hK hP.2 dX2_becomeLike_158 ?_
  refine tw_f15 hx hb hml hts hown hK hP hD hS ⟨Nat.le_of_ble_eq_true rfl, Nat.le_of_ble_eq_true rfl⟩ hl.1 dX2_becomeLike_161 (Nat.zero_le _) (Nat.zero_le _) (Nat.le_of_ble_eq_true rfl) (fun H locs hP hS => ?_)
  refine lv_aload_n hx hb dX2_becomeLike_164 rfl (lv_at hl 0 rfl) ?_
  refine sh_g16 hx hb hts hown hK hP.1 dX2_becomeLike_165 ?_
  refine lv_aload_n hx hb dX2_becomeLike_168 rfl (lv_at hl 1 rfl) ?_
  refine sh_g16 hx hb hts hown hK hP.2 dX2_becomeLike_169 ?_
  refine tw_f16 hx hb hml hts hown hK hP hD hS ⟨Nat.le_of_ble_eq_true rfl, Nat.le_of_ble_eq_true rfl⟩ hl.1 dX2_becomeLike_172 (Nat.zero_le _) (Nat.zero_le _) (Nat.le_of_ble_eq_true rfl) (fun H locs hP hS => ?_)
  refine lv_aload_n hx hb dX2_becomeLike_175 rfl (lv_at hl 0 rfl) ?_
  refine sh_g17 hx hb hts hown hK hP.1 dX2_becomeLike_176 ?_
  refine lv_aload_n hx hb dX2_becomeLike_179 rfl (lv_at hl 1 rfl) ?_
  refine sh_g17 hx hb hts hown hK hP.2 dX2_becomeLike_180 ?_
  refine tw_f17 hx hb hml hts hown hK hP hD hS ⟨Nat.le_of_ble_eq_true rfl, Nat.le_of_ble_eq_true rfl⟩ hl.1 dX2_becomeLike_183 (Nat.zero_le _) (Nat.zero_le _) (Nat.le_of_ble_eq_true rfl) (fun H locs hP hS => ?_)
  exact W.vret hx hb hr (fun t ht hW => ⟨rfl, by rw [ht]; exact hP.1, ⟨by rw [ht]; exact hS.1, fun q h1 h2 => by rw [ht]; exact hS.2.1 q h1 h2⟩⟩) hS.2.2 dX2_becomeLike_186 hlk
theorem kV_X2_becomeLike {R : Room} {s : State} {args : Array Value} {own : String} {idx : Nat} {c0 : Cond} (hts : ∀ w ∈ c0 :: W0, w.before args s = true) (hl : Cond.methodLink own idx yX2_becomeLike ∈ W0) (hR : rm_X2_becomeLike.frames + 1 ≤ R.frames ∧ 8 + (2 + 11) + rm_X2_becomeLike.locals ≤ R.locals) : CallW R s args own RX2 idx yX2_becomeLike cX2_becomeLike 2 (none) (Cond.code yX2_becomeLike cX2_becomeLike 2 (none) :: W0) rm_X2_becomeLike 0 0 1 := cwV 1 hts (gdV hl mi_yX2_becomeLike ms_yX2_becomeLike mini_X2 mc_yX2_becomeLike) rfl rfl rfl (by decide +kernel) hR


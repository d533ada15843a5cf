/-! ===== History's constructor ===== -/
theorem RA_obj {U : State} {c1 c2 : ClassId} {C : String} (h1 : va_RA U c1 (.object C)) (h2 : va_RA U c2 (.object C)) : c1 = c2 := by
  obtain ⟨_, _, _, _, _, e1⟩ := h1
  obtain ⟨_, _, _, _, _, e2⟩ := h2
  exact Option.some.inj (e1.symm.trans e2)
section INQ
variable {p : Program} {l : Launch} {e : Env} {R : Room} {s : State} {m : MethodId} {args : Array Value} {below : List Frame} {meth : Method} {c : Code} {H : Heap} {locs : List Loc} {cells slots : Nat} {Q : State → Prop} {cc : ByteArray} {pc : Nat} {ls : Array Slot} {rest : List Value} {H0 : Heap} {D : va_G} {cI cR : ClassId} {A : Nat → Prop} {ws : va_W} {own : String} {c0 : Cond}
abbrev kR (cI cR : ClassId) : List (ClassId × FieldType) := [(cI, .int), (cR, .object RX2)]
theorem newQ (hx : p.tables.exec = Jvm.exec) (hb : c.code = cc) (hown : s.vm.findClass own = some m.cls) {i1 : Nat} (hts : ∀ w ∈ c0 :: W0, w.before args s = true) (h1 : Cond.classLink own i1 RX2 ∈ W0) (hAO : va_AO RX2 s) (hK : va_K D vwCl (kR cI cR) s) (hP : va_P D vwCl ws H) (hD : va_D A ws) (hS : va_S A H0 H locs) (hA : ∀ q, H0.size ≤ q → A q) {n : Int32} (hn : n = nI 6) (hcells : cells + 1 ≤ R.cells) (hslots : slots + 6 ≤ R.slots) (d : decode cc pc = .ok (.anewarray i1, 3))
    (kk : ∀ (q : Nat) (H1 : Heap), va_P D vwCl (ws ++ [(q, .inl (cR, 6, .inr (.inr (.inr (.inr (fun _ => none))))))]) H1 → va_D A (ws ++ [(q, .inl (cR, 6, .inr (.inr (.inr (.inr (fun _ => none))))))]) → va_S A H0 H1 locs → W p l e R s m args below meth c H1 locs (cells + 1) (slots + 6) Q (F0 m (pc + 3) ls (.ref q :: rest))) : W p l e R s m args below meth c H locs cells slots Q (F0 m pc ls (.int n :: rest)) := by
  subst hn
  refine va_newq hx hb hown (hts _ (List.mem_cons_of_mem _ h1)) hAO hK hP hD hS hA (nI_pos (by omega)) (nI_clamp (by omega)) (by omega) hcells hslots d (fun q cA H1 hK1 hP1 hD1 hS1 => ?_)
  have e3 := RA_obj (hK1.2 2 (cA, .object RX2) rfl).2 (hK.2 1 (cR, .object RX2) rfl).2
  subst e3
  exact kk q H1 hP1 hD1 hS1
theorem iniQ (hx : p.tables.exec = Jvm.exec) (hb : c.code = cc) (hK : va_K D vwCl (kR cI cR) s) (hP : va_P D vwCl ws H) (hD : va_D A ws) (hS : va_S A H0 H locs) (q0 qk : Nat) {q v : Nat} {vs : List Value} {f : Nat → Option Nat} (ha : ws[q0]? = some (q, .inl (cR, 6, .inr (.inr (.inr (.inr f)))))) (hv : ws[qk]? = some (v, .inr (2, vs))) (j : Nat) {i : Int32} (hi : i = nI j) (hj : j < 6) (d : decode cc pc = .ok (.aastore, 1))
    (kk : ∀ (H1 : Heap) (locs1 : List Loc), va_P D vwCl (ws.set q0 (q, .inl (cR, 6, .inr (.inr (.inr (.inr (va_up f j (some v)))))))) H1 → va_D A (ws.set q0 (q, .inl (cR, 6, .inr (.inr (.inr (.inr (va_up f j (some v)))))))) → va_S A H0 H1 locs1 → W p l e R s m args below meth c H1 locs1 cells slots Q (F0 m (pc + 1) ls rest)) : W p l e R s m args below meth c H locs cells slots Q (F0 m pc ls (.ref v :: .int i :: .ref q :: rest)) := by
  subst hi
  refine va_astq hx hb hK hP hD hS q0 1 qk 2 ha rfl hv rfl (vp_in_nI hj (by omega)) d (fun H1 locs1 h1 h2 h3 => ?_)
  rw [nI_clamp (by omega)] at h1 h2
  exact kk H1 locs1 h1 h2 h3
end INQ
def rgF (oo : Nat → Nat) : Nat → Nat → Option Nat
  | 0 => fun _ => none
  | k + 1 => va_up (rgF oo k) k (some (oo k))

def hi0W (cI cR : ClassId) (o : Nat) (x : Nat × (Nat → Nat) × (Nat → Nat → Nat)) : va_W := (((((([(o, .inr (0, [.ref x.1, .int 0, .int 0])), (x.1, .inl (cR, 6, .inr (.inr (.inr (.inr (va_up (va_up (va_up (va_up (va_up (va_up (fun _ => none) 0 (some (x.2.1 0))) 1 (some (x.2.1 1))) 2 (some (x.2.1 2))) 3 (some (x.2.1 3))) 4 (some (x.2.1 4))) 5 (some (x.2.1 5))))))))] ++ shW cI (x.2.1 0) (x.2.2 0) sh0) ++ shW cI (x.2.1 1) (x.2.2 1) sh0) ++ shW cI (x.2.1 2) (x.2.2 2) sh0) ++ shW cI (x.2.1 3) (x.2.2 3) sh0) ++ shW cI (x.2.1 4) (x.2.2 4) sh0) ++ shW cI (x.2.1 5) (x.2.2 5) sh0)
abbrev rm_X0_init : Room := { frames := 2, cells := 91, slots := 2568, locals := 40 }
set_option maxRecDepth 100000 in
theorem c_X0_init (l : Launch) (D : va_G) (cI cR : ClassId) (o sz : Nat) :
    Met l yX0_init (Cond.code yX0_init cX0_init 2 (none) :: W0) rm_X0_init (va_Pc [.ref o] (fun U => U.heap.size = sz ∧ va_P D vwCl [(o, .inr (0, [.null, .int 0, .int 0]))] U.heap ∧ va_K D vwCl (kR cI cR) U ∧ va_AO RX2 U)) (iniN D (hi0W cI cR o) o sz) 91 2568 (inA o sz) := by
  refine st_genI (cc := cX0_init) (maxL := 2) (ret := none) (own := RX0) (by decide) rfl rfl (Nat.le_of_ble_eq_true rfl) ?_
  intro p e s m below meth c ls C hin hPre hl
  obtain ⟨hx, hb, hr, hml, hown, hts, hlk⟩ := C
  obtain ⟨hsz, hP, hK, hAO⟩ := hPre
  subst hsz
  have hA : ∀ q : Nat, s.heap.size ≤ q → inA o s.heap.size q := fun q h => Or.inr h
  have hS : va_S (inA o s.heap.size) s.heap s.heap [] := va_S.rf
  have hD : va_D (inA o s.heap.size) [(o, .inr (0, [.null, .int 0, .int 0]))] := inA_D
  have hl : lv_has ls 2 [(0, .ref o)] := hl
  refine lv_aload_n hx hb dX0_init_0 rfl (lv_at hl 0 rfl) ?_
  refine W.objInit hx hb hown (hts _ (List.mem_cons_of_mem _ ml_X0_5)) (hts _ (List.mem_cons_of_mem _ mi_objectInit)) (hts _ (List.mem_cons_of_mem _ mc_objectInit)) rfl (by rw [hml]; exact hl.1) rfl dX0_init_1 (Nat.le_of_ble_eq_true rfl) (Nat.le_of_ble_eq_true rfl) ?_
  refine W.eq (g2 := F0 m 4 ls []) rfl ?_
  refine lv_aload_n hx hb dX0_init_4 rfl (lv_at hl 0 rfl) ?_
  refine lv_bipush (v := 6) hx hb dX0_init_5 (by decide) ?_
  refine newQ hx hb hown hts mcl_X0_11 hAO hK hP hD hS hA rfl (Nat.le_of_ble_eq_true rfl) (Nat.le_of_ble_eq_true rfl) dX0_init_7 (fun q7 H hP hD hS => ?_)
  have hP : va_P D vwCl [(o, .inr (0, [.null, .int 0, .int 0])), (q7, .inl (cR, 6, .inr (.inr (.inr (.inr (fun _ => none))))))] H := hP
  have hD : va_D (inA o s.heap.size) [(o, .inr (0, [.null, .int 0, .int 0])), (q7, .inl (cR, 6, .inr (.inr (.inr (.inr (fun _ => none))))))] := hD
  refine va_putF (ci := 0) (C := RX0) (T := TX0) (N := 3) (v := .ref q7) (ty := .array (.object RX2)) hx hb hts (fun w h => List.mem_cons_of_mem _ (inX0 w h)) tyX0 tyX0_ok nmX0 hown hK hP hD hS 0 rfl rfl 0 (by decide) (hts _ (List.mem_cons_of_mem _ mf_X0_13)) (fun _ h => h) rfl hin rfl (by decide +kernel) rfl rfl (Nat.le_of_ble_eq_true rfl) dX0_init_10 (fun H locs hP hD hS => ?_)
  have hP : va_P D vwCl [(o, .inr (0, [.ref q7, .int 0, .int 0])), (q7, .inl (cR, 6, .inr (.inr (.inr (.inr (fun _ => none))))))] H := hP
  have hD : va_D (inA o s.heap.size) [(o, .inr (0, [.ref q7, .int 0, .int 0])), (q7, .inl (cR, 6, .inr (.inr (.inr (.inr (fun _ => none))))))] := hD
  refine lv_aload_n hx hb dX0_init_13 rfl (lv_at hl 0 rfl) ?_
  refine lv_iconst (v := 0) hx hb dX0_init_14 (by decide) ?_
  refine va_put (ci := 0) (C := RX0) (T := TX0) (N := 3) (v := .int 0) (ty := .int) hx hb hts (fun w h => List.mem_cons_of_mem _ (inX0 w h)) tyX0 tyX0_ok nmX0 hown hK hP hD hS 0 rfl rfl 1 (by decide) (hts _ (List.mem_cons_of_mem _ mf_X0_17)) (fun _ h => h) rfl (by decide +kernel) rfl rfl (Nat.le_of_ble_eq_true rfl) dX0_init_15 (fun H locs hP hD hS => ?_)
  have hP : va_P D vwCl [(o, .inr (0, [.ref q7, .int 0, .int 0])), (q7, .inl (cR, 6, .inr (.inr (.inr (.inr (fun _ => none))))))] H := hP
  have hD : va_D (inA o s.heap.size) [(o, .inr (0, [.ref q7, .int 0, .int 0])), (q7, .inl (cR, 6, .inr (.inr (.inr (.inr (fun _ => none))))))] := hD
  refine lv_aload_n hx hb dX0_init_18 rfl (lv_at hl 0 rfl) ?_
  refine lv_iconst (v := 0) hx hb dX0_init_19 (by decide) ?_
  refine va_put (ci := 0) (C := RX0) (T := TX0) (N := 3) (v := .int 0) (ty := .int) hx hb hts (fun w h => List.mem_cons_of_mem _ (inX0 w h)) tyX0 tyX0_ok nmX0 hown hK hP hD hS 0 rfl rfl 2 (by decide) (hts _ (List.mem_cons_of_mem _ mf_X0_21)) (fun _ h => h) rfl (by decide +kernel) rfl rfl (Nat.le_of_ble_eq_true rfl) dX0_init_20 (fun H locs hP hD hS => ?_)
  have hP : va_P D vwCl [(o, .inr (0, [.ref q7, .int 0, .int 0])), (q7, .inl (cR, 6, .inr (.inr (.inr (.inr (fun _ => none))))))] H := hP
  have hD : va_D (inA o s.heap.size) [(o, .inr (0, [.ref q7, .int 0, .int 0])), (q7, .inl (cR, 6, .inr (.inr (.inr (.inr (fun _ => none))))))] := hD
  refine lv_iconst (v := 0) hx hb dX0_init_23 (by decide) ?_
  refine lv_istore_n (lv' := [(1, .int (nI 0)), (0, .ref o)]) hx hb dX0_init_24 rfl hl (by decide) rfl (fun ls hl => ?_)
  refine lv_iload_n hx hb dX0_init_25 rfl (lv_at hl 0 rfl) ?_
  refine lv_bipush (v := 6) hx hb dX0_init_26 (by decide) ?_
  refine lv_icmp_geN 0 6 hx hb rfl rfl (by omega) (by omega) (tgt := 50) dX0_init_28 (by decide) (fun q => absurd q (by decide)) (fun _ => ?_)
  refine lv_aload_n hx hb dX0_init_31 rfl (lv_at hl 1 rfl) ?_
  refine va_get (ci := 0) (C := RX0) (T := TX0) (N := 3) (v := .ref q7) hx hb hts (fun w h => List.mem_cons_of_mem _ (inX0 w h)) hown hK hP 0 rfl rfl 0 (by decide) (hts _ (List.mem_cons_of_mem _ mf_X0_13)) (fun _ h => h) rfl dX0_init_32 ?_
  refine lv_iload_n hx hb dX0_init_35 rfl (lv_at hl 0 rfl) ?_
  refine mkShop (rest := [.int (nI 0), .ref q7]) hx hb hml hown hts hK hP hD hS hA mcl_X0_11 ml_X0_24 ⟨(Nat.le_of_ble_eq_true rfl), (Nat.le_of_ble_eq_true rfl)⟩ hl.1 (Nat.le_of_ble_eq_true rfl) (Nat.le_of_ble_eq_true rfl) (Nat.le_of_ble_eq_true rfl) dX0_init_36 dX0_init_39 dX0_init_40 (fun o0 a0 H locs hP hD hS => ?_)
  have hP : va_P D vwCl ([(o, .inr (0, [.ref q7, .int 0, .int 0])), (q7, .inl (cR, 6, .inr (.inr (.inr (.inr (fun _ => none))))))] ++ shW cI o0 a0 sh0) H := hP
  have hD : va_D (inA o s.heap.size) ([(o, .inr (0, [.ref q7, .int 0, .int 0])), (q7, .inl (cR, 6, .inr (.inr (.inr (.inr (fun _ => none))))))] ++ shW cI o0 a0 sh0) := hD
  refine iniQ hx hb hK hP hD hS 1 2 rfl rfl 0 rfl (by decide) dX0_init_43 (fun H locs hP hD hS => ?_)
  have hP : va_P D vwCl ([(o, .inr (0, [.ref q7, .int 0, .int 0])), (q7, .inl (cR, 6, .inr (.inr (.inr (.inr (va_up (fun _ => none) 0 (some o0)))))))] ++ shW cI o0 a0 sh0) H := hP
  have hD : va_D (inA o s.heap.size) ([(o, .inr (0, [.ref q7, .int 0, .int 0])), (q7, .inl (cR, 6, .inr (.inr (.inr (.inr (va_up (fun _ => none) 0 (some o0)))))))] ++ shW cI o0 a0 sh0) := hD
  refine lv_iinc (v := nI 1) (lv' := [(1, .int (nI 1)), (0, .ref o)]) hx hb dX0_init_44 hl (k := 0) rfl (nI_c1 _) (by decide) rfl (fun ls hl => ?_)
  refine lv_goto (tgt := 25) hx hb dX0_init_47 (by decide) ?_
  refine lv_iload_n hx hb dX0_init_25 rfl (lv_at hl 0 rfl) ?_
  refine lv_bipush (v := 6) hx hb dX0_init_26 (by decide) ?_
  refine lv_icmp_geN 1 6 hx hb rfl rfl (by omega) (by omega) (tgt := 50) dX0_init_28 (by decide) (fun q => absurd q (by decide)) (fun _ => ?_)
  refine lv_aload_n hx hb dX0_init_31 rfl (lv_at hl 1 rfl) ?_
  refine va_get (ci := 0) (C := RX0) (T := TX0) (N := 3) (v := .ref q7) hx hb hts (fun w h => List.mem_cons_of_mem _ (inX0 w h)) hown hK hP 0 rfl rfl 0 (by decide) (hts _ (List.mem_cons_of_mem _ mf_X0_13)) (fun _ h => h) rfl dX0_init_32 ?_
  refine lv_iload_n hx hb dX0_init_35 rfl (lv_at hl 0 rfl) ?_
  refine mkShop (rest := [.int (nI 1), .ref q7]) hx hb hml hown hts hK hP hD hS hA mcl_X0_11 ml_X0_24 ⟨(Nat.le_of_ble_eq_true rfl), (Nat.le_of_ble_eq_true rfl)⟩ hl.1 (Nat.le_of_ble_eq_true rfl) (Nat.le_of_ble_eq_true rfl) (Nat.le_of_ble_eq_true rfl) dX0_init_36 dX0_init_39 dX0_init_40 (fun o1 a1 H locs hP hD hS => ?_)
  have hP : va_P D vwCl (([(o, .inr (0, [.ref q7, .int 0, .int 0])), (q7, .inl (cR, 6, .inr (.inr (.inr (.inr (va_up (fun _ => none) 0 (some o0)))))))] ++ shW cI o0 a0 sh0) ++ shW cI o1 a1 sh0) H := hP
  have hD : va_D (inA o s.heap.size) (([(o, .inr (0, [.ref q7, .int 0, .int 0])), (q7, .inl (cR, 6, .inr (.inr (.inr (.inr (va_up (fun _ => none) 0 (some o0)))))))] ++ shW cI o0 a0 sh0) ++ shW cI o1 a1 sh0) := hD
  refine iniQ hx hb hK hP hD hS 1 17 rfl rfl 1 rfl (by decide) dX0_init_43 (fun H locs hP hD hS => ?_)
  have hP : va_P D vwCl (([(o, .inr (0, [.ref q7, .int 0, .int 0])), (q7, .inl (cR, 6, .inr (.inr (.inr (.inr (va_up (va_up (fun _ => none) 0 (some o0)) 1 (some o1)))))))] ++ shW cI o0 a0 sh0) ++ shW cI o1 a1 sh0) H := hP
  have hD : va_D (inA o s.heap.size) (([(o, .inr (0, [.ref q7, .int 0, .int 0])), (q7, .inl (cR, 6, .inr (.inr (.inr (.inr (va_up (va_up (fun _ => none) 0 (some o0)) 1 (some o1)))))))] ++ shW cI o0 a0 sh0) ++ shW cI o1 a1 sh0) := hD
  refine lv_iinc (v := nI 2) (lv' := [(1, .int (nI 2)), (0, .ref o)]) hx hb dX0_init_44 hl (k := 0) rfl (nI_c1 _) (by decide) rfl (fun ls hl => ?_)
  refine lv_goto (tgt := 25) hx hb dX0_init_47 (by decide) ?_
  refine lv_iload_n hx hb dX0_init_25 rfl (lv_at hl 0 rfl) ?_
  refine lv_bipush (v := 6) hx hb dX0_init_26 (by decide) ?_
  refine lv_icmp_geN 2 6 hx hb rfl rfl (by omega) (by omega) (tgt := 50) dX0_init_28 (by decide) (fun q => absurd q (by decide)) (fun _ => ?_)
  refine lv_aload_n hx hb dX0_init_31 rfl (lv_at hl 1 rfl) ?_
  refine va_get (ci := 0) (C := RX0) (T := TX0) (N := 3) (v := .ref q7) hx hb hts (fun w h => List.mem_cons_of_mem _ (inX0 w h)) hown hK hP 0 rfl rfl 0 (by decide) (hts _ (List.mem_cons_of_mem _ mf_X0_13)) (fun _ h => h) rfl dX0_init_32 ?_
  refine lv_iload_n hx hb dX0_init_35 rfl (lv_at hl 0 rfl) ?_
  refine mkShop (rest := [.int (nI 2), .ref q7]) hx hb hml hown hts hK hP hD hS hA mcl_X0_11 ml_X0_24 ⟨(Nat.le_of_ble_eq_true rfl), (Nat.le_of_ble_eq_true rfl)⟩ hl.1 (Nat.le_of_ble_eq_true rfl) (Nat.le_of_ble_eq_true rfl) (Nat.le_of_ble_eq_true rfl) dX0_init_36 dX0_init_39 dX0_init_40 (fun o2 a2 H locs hP hD hS => ?_)
  have hP : va_P D vwCl ((([(o, .inr (0, [.ref q7, .int 0, .int 0])), (q7, .inl (cR, 6, .inr (.inr (.inr (.inr (va_up (va_up (fun _ => none) 0 (some o0)) 1 (some o1)))))))] ++ shW cI o0 a0 sh0) ++ shW cI o1 a1 sh0) ++ shW cI o2 a2 sh0) H := hP
  have hD : va_D (inA o s.heap.size) ((([(o, .inr (0, [.ref q7, .int 0, .int 0])), (q7, .inl (cR, 6, .inr (.inr (.inr (.inr (va_up (va_up (fun _ => none) 0 (some o0)) 1 (some o1)))))))] ++ shW cI o0 a0 sh0) ++ shW cI o1 a1 sh0) ++ shW cI o2 a2 sh0) := hD
  refine iniQ hx hb hK hP hD hS 1 32 rfl rfl 2 rfl (by decide) dX0_init_43 (fun H locs hP hD hS => ?_)
  have hP : va_P D vwCl ((([(o, .inr (0, [.ref q7, .int 0, .int 0])), (q7, .inl (cR, 6, .inr (.inr (.inr (.inr (va_up (va_up (va_up (fun _ => none) 0 (some o0)) 1 (some o1)) 2 (some o2)))))))] ++ shW cI o0 a0 sh0) ++ shW cI o1 a1 sh0) ++ shW cI o2 a2 sh0) H := hP
  have hD : va_D (inA o s.heap.size) ((([(o, .inr (0, [.ref q7, .int 0, .int 0])), (q7, .inl (cR, 6, .inr (.inr (.inr (.inr (va_up (va_up (va_up (fun _ => none) 0 (some o0)) 1 (some o1)) 2 (some o2)))))))] ++ shW cI o0 a0 sh0) ++ shW cI o1 a1 sh0) ++ shW cI o2 a2 sh0) := hD
  refine lv_iinc (v := nI 3) (lv' := [(1, .int (nI 3)), (0, .ref o)]) hx hb dX0_init_44 hl (k := 0) rfl (nI_c1 _) (by decide) rfl (fun ls hl => ?_)
  refine lv_goto (tgt := 25) hx hb dX0_init_47 (by decide) ?_
  refine lv_iload_n hx hb dX0_init_25 rfl (lv_at hl 0 rfl) ?_
  refine lv_bipush (v := 6) hx hb dX0_init_26 (by decide) ?_
  refine lv_icmp_geN 3 6 hx hb rfl rfl (by omega) (by omega) (tgt := 50) dX0_init_28 (by decide) (fun q => absurd q (by decide)) (fun _ => ?_)
  refine lv_aload_n hx hb dX0_init_31 rfl (lv_at hl 1 rfl) ?_
  refine va_get (ci := 0) (C := RX0) (T := TX0) (N := 3) (v := .ref q7) hx hb hts (fun w h => List.mem_cons_of_mem _ (inX0 w h)) hown hK hP 0 rfl rfl 0 (by decide) (hts _ (List.mem_cons_of_mem _ mf_X0_13)) (fun _ h => h) rfl dX0_init_32 ?_
  refine lv_iload_n hx hb dX0_init_35 rfl (lv_at hl 0 rfl) ?_
  refine mkShop (rest := [.int (nI 3), .ref q7]) hx hb hml hown hts hK hP hD hS hA mcl_X0_11 ml_X0_24 ⟨(Nat.le_of_ble_eq_true rfl), (Nat.le_of_ble_eq_true rfl)⟩ hl.1 (Nat.le_of_ble_eq_true rfl) (Nat.le_of_ble_eq_true rfl) (Nat.le_of_ble_eq_true rfl) dX0_init_36 dX0_init_39 dX0_init_40 (fun o3 a3 H locs hP hD hS => ?_)
  have hP : va_P D vwCl (((([(o, .inr (0, [.ref q7, .int 0, .int 0])), (q7, .inl (cR, 6, .inr (.inr (.inr (.inr (va_up (va_up (va_up (fun _ => none) 0 (some o0)) 1 (some o1)) 2 (some o2)))))))] ++ shW cI o0 a0 sh0) ++ shW cI o1 a1 sh0) ++ shW cI o2 a2 sh0) ++ shW cI o3 a3 sh0) H := hP
  have hD : va_D (inA o s.heap.size) (((([(o, .inr (0, [.ref q7, .int 0, .int 0])), (q7, .inl (cR, 6, .inr (.inr (.inr (.inr (va_up (va_up (va_up (fun _ => none) 0 (some o0)) 1 (some o1)) 2 (some o2)))))))] ++ shW cI o0 a0 sh0) ++ shW cI o1 a1 sh0) ++ shW cI o2 a2 sh0) ++ shW cI o3 a3 sh0) := hD
  refine iniQ hx hb hK hP hD hS 1 47 rfl rfl 3 rfl (by decide) dX0_init_43 (fun H locs hP hD hS => ?_)
  have hP : va_P D vwCl (((([(o, .inr (0, [.ref q7, .int 0, .int 0])), (q7, .inl (cR, 6, .inr (.inr (.inr (.inr (va_up (va_up (va_up (va_up (fun _ => none) 0 (some o0)) 1 (some o1)) 2 (some o2)) 3 (some o3)))))))] ++ shW cI o0 a0 sh0) ++ shW cI o1 a1 sh0) ++ shW cI o2 a2 sh0) ++ shW cI o3 a3 sh0) H := hP
  have hD : va_D (inA o s.heap.size) (((([(o, .inr (0, [.ref q7, .int 0, .int 0])), (q7, .inl (cR, 6, .inr (.inr (.inr (.inr (va_up (va_up (va_up (va_up (fun _ => none) 0 (some o0)) 1 (some o1)) 2 (some o2)) 3 (some o3)))))))] ++ shW cI o0 a0 sh0) ++ shW cI o1 a1 sh0) ++ shW cI o2 a2 sh0) ++ shW cI o3 a3 sh0) := hD
  refine lv_iinc (v := nI 4) (lv' := [(1, .int (nI 4)), (0, .ref o)]) hx hb dX0_init_44 hl (k := 0) rfl (nI_c1 _) (by decide) rfl (fun ls hl => ?_)
  refine lv_goto (tgt := 25) hx hb dX0_init_47 (by decide) ?_
  refine lv_iload_n hx hb dX0_init_25 rfl (lv_at hl 0 rfl) ?_
  refine lv_bipush (v := 6) hx hb dX0_init_26 (by decide) ?_
  refine lv_icmp_geN 4 6 hx hb rfl rfl (by omega) (by omega) (tgt := 50) dX0_init_28 (by decide) (fun q => absurd q (by decide)) (fun _ => ?_)
  refine lv_aload_n hx hb dX0_init_31 rfl (lv_at hl 1 rfl) ?_
  refine va_get (ci := 0) (C := RX0) (T := TX0) (N := 3) (v := .ref q7) hx hb hts (fun w h => List.mem_cons_of_mem _ (inX0 w h)) hown hK hP 0 rfl rfl 0 (by decide) (hts _ (List.mem_cons_of_mem _ mf_X0_13)) (fun _ h => h) rfl dX0_init_32 ?_
  refine lv_iload_n hx hb dX0_init_35 rfl (lv_at hl 0 rfl) ?_
  refine mkShop (rest := [.int (nI 4), .ref q7]) hx hb hml hown hts hK hP hD hS hA mcl_X0_11 ml_X0_24 ⟨(Nat.le_of_ble_eq_true rfl), (Nat.le_of_ble_eq_true rfl)⟩ hl.1 (Nat.le_of_ble_eq_true rfl) (Nat.le_of_ble_eq_true rfl) (Nat.le_of_ble_eq_true rfl) dX0_init_36 dX0_init_39 dX0_init_40 (fun o4 a4 H locs hP hD hS => ?_)
  have hP : va_P D vwCl ((((([(o, .inr (0, [.ref q7, .int 0, .int 0])), (q7, .inl (cR, 6, .inr (.inr (.inr (.inr (va_up (va_up (va_up (va_up (fun _ => none) 0 (some o0)) 1 (some o1)) 2 (some o2)) 3 (some o3)))))))] ++ shW cI o0 a0 sh0) ++ shW cI o1 a1 sh0) ++ shW cI o2 a2 sh0) ++ shW cI o3 a3 sh0) ++ shW cI o4 a4 sh0) H := hP
  have hD : va_D (inA o s.heap.size) ((((([(o, .inr (0, [.ref q7, .int 0, .int 0])), (q7, .inl (cR, 6, .inr (.inr (.inr (.inr (va_up (va_up (va_up (va_up (fun _ => none) 0 (some o0)) 1 (some o1)) 2 (some o2)) 3 (some o3)))))))] ++ shW cI o0 a0 sh0) ++ shW cI o1 a1 sh0) ++ shW cI o2 a2 sh0) ++ shW cI o3 a3 sh0) ++ shW cI o4 a4 sh0) := hD
  refine iniQ hx hb hK hP hD hS 1 62 rfl rfl 4 rfl (by decide) dX0_init_43 (fun H locs hP hD hS => ?_)
  have hP : va_P D vwCl ((((([(o, .inr (0, [.ref q7, .int 0, .int 0])), (q7, .inl (cR, 6, .inr (.inr (.inr (.inr (va_up (va_up (va_up (va_up (va_up (fun _ => none) 0 (some o0)) 1 (some o1)) 2 (some o2)) 3 (some o3)) 4 (some o4)))))))] ++ shW cI o0 a0 sh0) ++ shW cI o1 a1 sh0) ++ shW cI o2 a2 sh0) ++ shW cI o3 a3 sh0) ++ shW cI o4 a4 sh0) H := hP
  have hD : va_D (inA o s.heap.size) ((((([(o, .inr (0, [.ref q7, .int 0, .int 0])), (q7, .inl (cR, 6, .inr (.inr (.inr (.inr (va_up (va_up (va_up (va_up (va_up (fun _ => none) 0 (some o0)) 1 (some o1)) 2 (some o2)) 3 (some o3)) 4 (some o4)))))))] ++ shW cI o0 a0 sh0) ++ shW cI o1 a1 sh0) ++ shW cI o2 a2 sh0) ++ shW cI o3 a3 sh0) ++ shW cI o4 a4 sh0) := hD
  refine lv_iinc (v := nI 5) (lv' := [(1, .int (nI 5)), (0, .ref o)]) hx hb dX0_init_44 hl (k := 0) rfl (nI_c1 _) (by decide) rfl (fun ls hl => ?_)
  refine lv_goto (tgt := 25) hx hb dX0_init_47 (by decide) ?_
  refine lv_iload_n hx hb dX0_init_25 rfl (lv_at hl 0 rfl) ?_
  refine lv_bipush (v := 6) hx hb dX0_init_26 (by decide) ?_
  refine lv_icmp_geN 5 6 hx hb rfl rfl (by omega) (by omega) (tgt := 50) dX0_init_28 (by decide) (fun q => absurd q (by decide)) (fun _ => ?_)
  refine lv_aload_n hx hb dX0_init_31 rfl (lv_at hl 1 rfl) ?_
  refine va_get (ci := 0) (C := RX0) (T := TX0) (N := 3) (v := .ref q7) hx hb hts (fun w h => List.mem_cons_of_mem _ (inX0 w h)) hown hK hP 0 rfl rfl 0 (by decide) (hts _ (List.mem_cons_of_mem _ mf_X0_13)) (fun _ h => h) rfl dX0_init_32 ?_
  refine lv_iload_n hx hb dX0_init_35 rfl (lv_at hl 0 rfl) ?_
  refine mkShop (rest := [.int (nI 5), .ref q7]) hx hb hml hown hts hK hP hD hS hA mcl_X0_11 ml_X0_24 ⟨(Nat.le_of_ble_eq_true rfl), (Nat.le_of_ble_eq_true rfl)⟩ hl.1 (Nat.le_of_ble_eq_true rfl) (Nat.le_of_ble_eq_true rfl) (Nat.le_of_ble_eq_true rfl) dX0_init_36 dX0_init_39 dX0_init_40 (fun o5 a5 H locs hP hD hS => ?_)
  have hP : va_P D vwCl (((((([(o, .inr (0, [.ref q7, .int 0, .int 0])), (q7, .inl (cR, 6, .inr (.inr (.inr (.inr (va_up (va_up (va_up (va_up (va_up (fun _ => none) 0 (some o0)) 1 (some o1)) 2 (some o2)) 3 (some o3)) 4 (some o4)))))))] ++ shW cI o0 a0 sh0) ++ shW cI o1 a1 sh0) ++ shW cI o2 a2 sh0) ++ shW cI o3 a3 sh0) ++ shW cI o4 a4 sh0) ++ shW cI o5 a5 sh0) H := hP
  have hD : va_D (inA o s.heap.size) (((((([(o, .inr (0, [.ref q7, .int 0, .int 0])), (q7, .inl (cR, 6, .inr (.inr (.inr (.inr (va_up (va_up (va_up (va_up (va_up (fun _ => none) 0 (some o0)) 1 (some o1)) 2 (some o2)) 3 (some o3)) 4 (some o4)))))))] ++ shW cI o0 a0 sh0) ++ shW cI o1 a1 sh0) ++ shW cI o2 a2 sh0) ++ shW cI o3 a3 sh0) ++ shW cI o4 a4 sh0) ++ shW cI o5 a5 sh0) := hD
  refine iniQ hx hb hK hP hD hS 1 77 rfl rfl 5 rfl (by decide) dX0_init_43 (fun H locs hP hD hS => ?_)
  have hP : va_P D vwCl (((((([(o, .inr (0, [.ref q7, .int 0, .int 0])), (q7, .inl (cR, 6, .inr (.inr (.inr (.inr (va_up (va_up (va_up (va_up (va_up (va_up (fun _ => none) 0 (some o0)) 1 (some o1)) 2 (some o2)) 3 (some o3)) 4 (some o4)) 5 (some o5)))))))] ++ shW cI o0 a0 sh0) ++ shW cI o1 a1 sh0) ++ shW cI o2 a2 sh0) ++ shW cI o3 a3 sh0) ++ shW cI o4 a4 sh0) ++ shW cI o5 a5 sh0) H := hP
  have hD : va_D (inA o s.heap.size) (((((([(o, .inr (0, [.ref q7, .int 0, .int 0])), (q7, .inl (cR, 6, .inr (.inr (.inr (.inr (va_up (va_up (va_up (va_up (va_up (va_up (fun _ => none) 0 (some o0)) 1 (some o1)) 2 (some o2)) 3 (some o3)) 4 (some o4)) 5 (some o5)))))))] ++ shW cI o0 a0 sh0) ++ shW cI o1 a1 sh0) ++ shW cI o2 a2 sh0) ++ shW cI o3 a3 sh0) ++ shW cI o4 a4 sh0) ++ shW cI o5 a5 sh0) := hD
  refine lv_iinc (v := nI 6) (lv' := [(1, .int (nI 6)), (0, .ref o)]) hx hb dX0_init_44 hl (k := 0) rfl (nI_c1 _) (by decide) rfl (fun ls hl => ?_)
  refine lv_goto (tgt := 25) hx hb dX0_init_47 (by decide) ?_
  refine lv_iload_n hx hb dX0_init_25 rfl (lv_at hl 0 rfl) ?_
  refine lv_bipush (v := 6) hx hb dX0_init_26 (by decide) ?_
  refine lv_icmp_geN 6 6 hx hb rfl rfl (by omega) (by omega) (tgt := 50) dX0_init_28 (by decide) (fun _ => ?_) (fun q => absurd (by decide) q)
  exact W.vret hx hb hr (fun t ht _ => ⟨rfl, (q7, (fun k => if k = 0 then o0 else if k = 1 then o1 else if k = 2 then o2 else if k = 3 then o3 else if k = 4 then o4 else if k = 5 then o5 else 0), (fun k => if k = 0 then a0 else if k = 1 then a1 else if k = 2 then a2 else if k = 3 then a3 else if k = 4 then a4 else if k = 5 then a5 else fun _ => 0)), by rw [ht]; exact hP, hD, hS.F ht⟩) (fun q hq => hS.2.2 q hq) dX0_init_50 hlk


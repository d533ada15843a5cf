/-! ===== BookRental's constructor ===== -/
theorem ini_blindQ {D : va_G} {tys : List (ClassId × FieldType)} {av : List Value} {q sz : Nat} {ev : va_E} : FrameBlind (va_Pc av (fun U => U.heap.size = sz ∧ va_P D vwCl [(q, ev)] U.heap ∧ va_K D vwCl tys U ∧ va_AO RX2 U)) := fun b U g mk z => ⟨z.1, z.2.1, z.2.2.1, va_K.moved (u := U) (U := U.calling g mk b) (Vm.Alike.refl U.vm) z.2.2.2.1, va_AO.moved (u := U) (U := U.calling g mk b) (Vm.Alike.refl U.vm) z.2.2.2.2⟩
theorem fsX0 : ∀ j, j < 3 → defaultValue (tyX0 j) = vp_V [.null, .int 0, .int 0] j := by
  intro j hj
  rcases (show j = 0 ∨ j = 1 ∨ j = 2 by omega) with rfl | rfl | rfl <;> rfl
theorem fsX3 : ∀ j, j < 3 → defaultValue (tyX3 j) = vp_V [.null, .null, .null] j := by
  intro j hj
  rcases (show j = 0 ∨ j = 1 ∨ j = 2 by omega) with rfl | rfl | rfl <;> rfl
abbrev B0 : Type := (Nat × (Nat → Nat)) × (Nat × (Nat × (Nat → Nat) × (Nat → Nat → Nat))) × (Nat × (Nat → Nat))
def br0W (cI cR : ClassId) (o : Nat) (x : B0) : va_W := (([(o, .inr (3, [.ref x.1.1, .ref x.2.1.1, .ref x.2.2.1]))] ++ shW cI x.1.1 x.1.2 sh0) ++ hi0W cI cR x.2.1.1 x.2.1.2) ++ txW cI x.2.2.1 x.2.2.2 tx0
abbrev rm_X3_init : Room := { frames := 3, cells := 109, slots := 3105, locals := 61 }
set_option maxRecDepth 100000 in
theorem c_X3_init (l : Launch) (D : va_G) (cI cR : ClassId) (o sz : Nat) :
    Met l yX3_init (Cond.code yX3_init cX3_init 1 (none) :: W0) rm_X3_init (va_Pc [.ref o] (fun U => U.heap.size = sz ∧ va_P D vwCl [(o, .inr (3, [.null, .null, .null]))] U.heap ∧ va_K D vwCl (kR cI cR) U ∧ va_AO RX2 U)) (iniN D (br0W cI cR o) o sz) 109 3105 (inA o sz) := by
  refine st_genI (cc := cX3_init) (maxL := 1) (ret := none) (own := RX3) (by decide) rfl rfl (Nat.le_of_ble_eq_true rfl) ?_
  intro p e s m below meth c ls C hin hPre hl
  obtain ⟨hx, hb, hr, hml, hown, hts, hlk⟩ := C
  obtain ⟨hsz, hP, hK, hAO⟩ := hPre
  subst hsz
  have hA : ∀ q : Nat, s.heap.size ≤ q → inA o s.heap.size q := fun q h => Or.inr h
  have hS : va_S (inA o s.heap.size) s.heap s.heap [] := va_S.rf
  have hD : va_D (inA o s.heap.size) [(o, .inr (3, [.null, .null, .null]))] := inA_D
  have hl : lv_has ls 1 [(0, .ref o)] := hl
  refine lv_aload_n hx hb dX3_init_0 rfl (lv_at hl 0 rfl) ?_
  refine W.objInit hx hb hown (hts _ (List.mem_cons_of_mem _ ml_X3_1)) (hts _ (List.mem_cons_of_mem _ mi_objectInit)) (hts _ (List.mem_cons_of_mem _ mc_objectInit)) rfl (by rw [hml]; exact hl.1) rfl dX3_init_1 (Nat.le_of_ble_eq_true rfl) (Nat.le_of_ble_eq_true rfl) ?_
  refine W.eq (g2 := F0 m 4 ls []) rfl ?_
  refine lv_aload_n hx hb dX3_init_4 rfl (lv_at hl 0 rfl) ?_
  refine mkShop (rest := [.ref o]) hx hb hml hown hts hK hP hD hS hA mcl_X3_7 ml_X3_9 ⟨(Nat.le_of_ble_eq_true rfl), (Nat.le_of_ble_eq_true rfl)⟩ hl.1 (Nat.le_of_ble_eq_true rfl) (Nat.le_of_ble_eq_true rfl) (Nat.le_of_ble_eq_true rfl) dX3_init_5 dX3_init_8 dX3_init_9 (fun qs as H locs hP hD hS => ?_)
  refine va_putF (ci := 3) (C := RX3) (T := TX3) (N := 3) (v := .ref qs) (ty := .object "BookRental$Shop") hx hb hts (fun w h => List.mem_cons_of_mem _ (inX3 w h)) tyX3 tyX3_ok nmX3 hown hK hP hD hS 0 rfl rfl 0 (by decide) (hts _ (List.mem_cons_of_mem _ mf_X3_10)) (fun _ h => h) rfl hin rfl (by decide +kernel) rfl rfl (Nat.le_of_ble_eq_true rfl) dX3_init_12 (fun H locs hP hD hS => ?_)
  have hP : va_P D vwCl ([(o, .inr (3, [.ref qs, .null, .null]))] ++ shW cI qs as sh0) H := hP
  have hD : va_D (inA o s.heap.size) ([(o, .inr (3, [.ref qs, .null, .null]))] ++ shW cI qs as sh0) := hD
  refine lv_aload_n hx hb dX3_init_15 rfl (lv_at hl 0 rfl) ?_
  refine va_new (ci := 0) (fs := [.null, .int 0, .int 0]) (C := RX0) (T := TX0) (N := 3) hx hb hts (fun w h => List.mem_cons_of_mem _ (inX0 w h)) tyX0 tyX0_ok hown (hts _ (List.mem_cons_of_mem _ mcl_X3_16)) (hts _ (List.mem_cons_of_mem _ min_X0)) (hts _ (List.mem_cons_of_mem _ mini_X0)) hK hP hD hS hA rfl fsX0 (Nat.le_of_ble_eq_true rfl) (Nat.le_of_ble_eq_true rfl) dX3_init_16 (fun qh H hP hD hS => ?_)
  refine lv_dup hx hb dX3_init_19 rfl ?_
  refine iniCall (hi0W cI cR qh) (rest := [.ref qh, .ref o]) hx hb hml hown hts (c_X0_init l D cI cR qh H.size) (cwI 0 hts (gdI mc_yX0_init) rfl rfl rfl (hts _ (List.mem_cons_of_mem _ mini_X0)) (hts _ (List.mem_cons_of_mem _ ml_X3_18)) (hts _ (List.mem_cons_of_mem _ mi_yX0_init)) rfl (by decide +kernel) ⟨(Nat.le_of_ble_eq_true rfl), (Nat.le_of_ble_eq_true rfl)⟩) ⟨ini_blindQ, fun U hU hW => ⟨rfl, by rw [hU], by rw [hU]; exact one_P hP, va_K.moved hW.alike hK, va_AO.moved hW.alike hAO⟩⟩ hP hD hS hA hl.1 (Nat.le_of_ble_eq_true rfl) dX3_init_20 (Nat.le_of_ble_eq_true rfl) (Nat.le_of_ble_eq_true rfl) (fun xh H locs hP hD hS => ?_)
  refine va_putF (ci := 3) (C := RX3) (T := TX3) (N := 3) (v := .ref qh) (ty := .object "BookRental$History") hx hb hts (fun w h => List.mem_cons_of_mem _ (inX3 w h)) tyX3 tyX3_ok nmX3 hown hK hP hD hS 0 rfl rfl 1 (by decide) (hts _ (List.mem_cons_of_mem _ mf_X3_19)) (fun _ h => h) rfl hin rfl (by decide +kernel) rfl rfl (Nat.le_of_ble_eq_true rfl) dX3_init_23 (fun H locs hP hD hS => ?_)
  have hP : va_P D vwCl (([(o, .inr (3, [.ref qs, .ref qh, .null]))] ++ shW cI qs as sh0) ++ hi0W cI cR qh xh) H := hP
  have hD : va_D (inA o s.heap.size) (([(o, .inr (3, [.ref qs, .ref qh, .null]))] ++ shW cI qs as sh0) ++ hi0W cI cR qh xh) := hD
  refine lv_aload_n hx hb dX3_init_26 rfl (lv_at hl 0 rfl) ?_
  refine va_new (ci := 1) (fs := in_X1) (C := RX1) (T := TX1) (N := 7) hx hb hts (fun w h => List.mem_cons_of_mem _ (inX1 w h)) tyX1 tyX1_ok hown (hts _ (List.mem_cons_of_mem _ mcl_X3_23)) (hts _ (List.mem_cons_of_mem _ min_X1)) (hts _ (List.mem_cons_of_mem _ mini_X1)) hK hP hD hS hA rfl fsX1 (Nat.le_of_ble_eq_true rfl) (Nat.le_of_ble_eq_true rfl) dX3_init_27 (fun qt H hP hD hS => ?_)
  refine lv_dup hx hb dX3_init_30 rfl ?_
  refine iniCall (fun b => txW cI qt b tx0) (rest := [.ref qt, .ref o]) hx hb hml hown hts (c_X1_init l D cI qt H.size [(cR, .object RX2)]) (cwI 0 hts (gdI mc_yX1_init) rfl rfl rfl (hts _ (List.mem_cons_of_mem _ mini_X1)) (hts _ (List.mem_cons_of_mem _ ml_X3_25)) (hts _ (List.mem_cons_of_mem _ mi_yX1_init)) rfl (by decide +kernel) ⟨(Nat.le_of_ble_eq_true rfl), (Nat.le_of_ble_eq_true rfl)⟩) ⟨ini_blind, fun U hU hW => ⟨rfl, by rw [hU], by rw [hU]; exact one_P hP, va_K.moved hW.alike hK⟩⟩ hP hD hS hA hl.1 (Nat.le_of_ble_eq_true rfl) dX3_init_31 (Nat.le_of_ble_eq_true rfl) (Nat.le_of_ble_eq_true rfl) (fun bt H locs hP hD hS => ?_)
  refine va_putF (ci := 3) (C := RX3) (T := TX3) (N := 3) (v := .ref qt) (ty := .object "BookRental$OrderText") hx hb hts (fun w h => List.mem_cons_of_mem _ (inX3 w h)) tyX3 tyX3_ok nmX3 hown hK hP hD hS 0 rfl rfl 2 (by decide) (hts _ (List.mem_cons_of_mem _ mf_X3_26)) (fun _ h => h) rfl hin rfl (by decide +kernel) rfl rfl (Nat.le_of_ble_eq_true rfl) dX3_init_34 (fun H locs hP hD hS => ?_)
  have hP : va_P D vwCl ((([(o, .inr (3, [.ref qs, .ref qh, .ref qt]))] ++ shW cI qs as sh0) ++ hi0W cI cR qh xh) ++ txW cI qt bt tx0) H := hP
  have hD : va_D (inA o s.heap.size) ((([(o, .inr (3, [.ref qs, .ref qh, .ref qt]))] ++ shW cI qs as sh0) ++ hi0W cI cR qh xh) ++ txW cI qt bt tx0) := hD
  exact W.vret hx hb hr (fun t ht _ => ⟨rfl, ((qs, as), (qh, xh), (qt, bt)), by rw [ht]; exact hP, hD, hS.F ht⟩) (fun q hq => hS.2.2 q hq) dX3_init_37 hlk

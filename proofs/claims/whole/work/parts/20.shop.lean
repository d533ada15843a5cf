/-! ===== the shop's state: what its numbers are bounded by ===== -/
def nT (σ : Nat → Nat → Int32) : Nat := tn (σ 1 0)
def nC (σ : Nat → Nat → Int32) : Nat := tn (σ 2 0)
def nN (σ : Nat → Nat → Int32) : Nat := tn (σ 3 0)
def tOf (σ : Nat → Nat → Int32) (k : Nat) : Nat := tn (σ 10 k)
def rOf (σ : Nat → Nat → Int32) (k : Nat) : Nat := tn (σ 14 k)
def okS (σ : Nat → Nat → Int32) : Prop := (σ 1 0 = nI (nT σ) ∧ nT σ ≤ 6) ∧ (σ 2 0 = nI (nC σ) ∧ nC σ ≤ 6) ∧ (σ 3 0 = nI (nN σ) ∧ nN σ ≤ 60) ∧ (∀ k, k < nN σ → σ 10 k = nI (tOf σ k) ∧ tOf σ k < 6) ∧ (∀ k, k < nN σ → σ 13 k = 1 → σ 14 k = nI (rOf σ k) ∧ rOf σ k < 8)
theorem okS_b {σ : Nat → Nat → Int32} (h : okS σ) : nT σ ≤ 6 ∧ nC σ ≤ 6 ∧ nN σ ≤ 60 := ⟨h.1.2, h.2.1.2, h.2.2.1.2⟩
theorem okS_1 {σ : Nat → Nat → Int32} (h : okS σ) : σ 1 0 = nI (nT σ) := h.1.1
theorem okS_2 {σ : Nat → Nat → Int32} (h : okS σ) : σ 2 0 = nI (nC σ) := h.2.1.1
theorem okS_3 {σ : Nat → Nat → Int32} (h : okS σ) : σ 3 0 = nI (nN σ) := h.2.2.1.1
theorem okS_t {σ : Nat → Nat → Int32} (h : okS σ) {k : Nat} (hk : k < nN σ) : σ 10 k = nI (tOf σ k) ∧ tOf σ k < 6 := h.2.2.2.1 k hk
theorem okS_r {σ : Nat → Nat → Int32} (h : okS σ) {k : Nat} (hk : k < nN σ) (h1 : σ 13 k = 1) : σ 14 k = nI (rOf σ k) ∧ rOf σ k < 8 := h.2.2.2.2 k hk h1
theorem tn_pos {x : Int32} (h : 0 ≤ x) : x = nI (tn x) := by
  obtain ⟨j, hj, rfl⟩ := nI_of (x := x) (fun q => Int32.not_le.mpr q h)
  rw [tn_nI hj]
theorem tn_le {x : Int32} {n : Nat} (h : 0 ≤ x) (h2 : x ≤ nI n) (hn : n < 2 ^ 31) : tn x ≤ n := by
  have e := tn_pos h
  have b : tn x < 2 ^ 31 := by
    obtain ⟨j, hj, rfl⟩ := nI_of (x := x) (fun q => Int32.not_le.mpr q h)
    rw [tn_nI hj]; exact hj
  rw [e] at h2
  exact (nI_leI b hn).mp h2
theorem tn_lt {x : Int32} {n : Nat} (h : 0 ≤ x) (h2 : x ≤ nI n - 1) (hn : n < 2 ^ 30) : tn x < n := by
  cases n with
  | zero =>
    have h3 : x < 0 := Int32.lt_of_le_of_lt h2 (by decide)
    exact absurd h (Int32.not_le.mpr h3)
  | succ n => rw [nI_pred] at h2; exact Nat.lt_succ_of_le (tn_le h h2 (by omega))

/-! X2.isBetween -/
def f_X2_isBetween (x : Int32) (y : Int32) (z : Int32) : Int32 := (if x < y then 0 else (if z < x then 0 else 1))
abbrev rm_X2_isBetween : Room := { frames := 0, cells := 0, slots := 0, locals := 0 }
set_option maxRecDepth 100000 in
theorem c_X2_isBetween (l : Launch) (x : Int32) (y : Int32) (z : Int32) :
    Met l yX2_isBetween (Cond.code yX2_isBetween cX2_isBetween 3 (some .boolean) :: W0) rm_X2_isBetween (va_Pc [.int x, .int y, .int z] (fun _ => True)) (vp_Si (fun r => r = f_X2_isBetween x y z)) 0 0 (fun _ => False) := by
  refine st_gen (cc := cX2_isBetween) (maxL := 3) (ret := some .boolean) (own := RX2) (by decide) rfl (Nat.le_of_ble_eq_true rfl) ?_
  intro p e s m below meth c ls C hPre hl
  obtain ⟨hx, hb, hr, hml, hown, hts, hlk⟩ := C
  have hl : lv_has ls 3 [(0, .int (x)), (1, .int (y)), (2, .int (z))] := hl
  refine lv_iload_n hx hb dX2_isBetween_0 rfl (lv_at hl 0 rfl) ?_
  refine lv_iload_n hx hb dX2_isBetween_1 rfl (lv_at hl 1 rfl) ?_
  refine lv_icmp_lt (tgt := 14) hx hb dX2_isBetween_2 (by decide) (fun c_2 => ?_) (fun c_2 => ?_)
  · refine lv_iconst (v := 0) hx hb dX2_isBetween_14 (by decide) ?_
    exact fin_z hx hb hr hlk (Or.inl rfl) (br_p c_2 rfl) dX2_isBetween_15
  refine lv_iload_n hx hb dX2_isBetween_5 rfl (lv_at hl 0 rfl) ?_
  refine lv_iload_n hx hb dX2_isBetween_6 rfl (lv_at hl 2 rfl) ?_
  refine lv_icmp_gt (tgt := 14) hx hb dX2_isBetween_7 (by decide) (fun c_7 => ?_) (fun c_7 => ?_)
  · refine lv_iconst (v := 0) hx hb dX2_isBetween_14 (by decide) ?_
    exact fin_z hx hb hr hlk (Or.inl rfl) (br_n c_2 (br_p c_7 rfl)) dX2_isBetween_15
  refine lv_iconst (v := 1) hx hb dX2_isBetween_10 (by decide) ?_
  refine lv_goto (tgt := 15) hx hb dX2_isBetween_11 (by decide) ?_
  exact fin_z hx hb hr hlk (Or.inr rfl) (br_n c_2 (br_n c_7 rfl)) dX2_isBetween_15
theorem kS_X2_isBetween {R : Room} {s : State} {args : Array Value} {own : String} {idx : Nat} {c0 : Cond} (hts : ∀ w ∈ c0 :: W0, w.before args s = true) (hl : Cond.methodLink own idx yX2_isBetween ∈ W0) (hR : rm_X2_isBetween.frames + 1 ≤ R.frames ∧ 8 + (3 + 11) + rm_X2_isBetween.locals ≤ R.locals) : CallB R s args own idx yX2_isBetween cX2_isBetween 3 (some .boolean) (Cond.code yX2_isBetween cX2_isBetween 3 (some .boolean) :: W0) rm_X2_isBetween 0 0 3 ∧ (Cond.static yX2_isBetween).before args s = true := va_cwS 3 hts (gdS hl mst_yX2_isBetween mini_X2 mc_yX2_isBetween) rfl rfl rfl (by decide +kernel) hR

theorem z_X2_isBetween {x : Int32} {y : Int32} {z : Int32} : f_X2_isBetween x y z = 0 ∨ f_X2_isBetween x y z = 1 := by
  unfold f_X2_isBetween
  (repeat' split) <;> first | exact Or.inl rfl | exact Or.inr rfl

/-! X2.hasCustomer -/
def f_X2_hasCustomer (x : Int32) : Int32 := (f_X2_isBetween x 0 7)
abbrev rm_X2_hasCustomer : Room := { frames := 1, cells := 0, slots := 0, locals := 22 }
set_option maxRecDepth 100000 in
theorem c_X2_hasCustomer (l : Launch) (x : Int32) :
    Met l yX2_hasCustomer (Cond.code yX2_hasCustomer cX2_hasCustomer 1 (some .boolean) :: W0) rm_X2_hasCustomer (va_Pc [.int x] (fun _ => True)) (vp_Si (fun r => r = f_X2_hasCustomer x)) 0 0 (fun _ => False) := by
  refine st_gen (cc := cX2_hasCustomer) (maxL := 1) (ret := some .boolean) (own := RX2) (by decide) rfl (Nat.le_of_ble_eq_true rfl) ?_
  intro p e s m below meth c ls C hPre hl
  obtain ⟨hx, hb, hr, hml, hown, hts, hlk⟩ := C
  have hl : lv_has ls 1 [(0, .int (x))] := hl
  refine lv_iload_n hx hb dX2_hasCustomer_0 rfl (lv_at hl 0 rfl) ?_
  refine lv_iconst (v := 0) hx hb dX2_hasCustomer_1 (by decide) ?_
  refine lv_bipush (v := 7) hx hb dX2_hasCustomer_2 (by decide) ?_
  refine cl_S (rest := []) hx hb hml hown hts (c_X2_isBetween l x 0 7) (kS_X2_isBetween hts ml_X2_93 ⟨(Nat.le_of_ble_eq_true rfl), (Nat.le_of_ble_eq_true rfl)⟩) rfl hl.1 rfl (Nat.le_of_ble_eq_true rfl) dX2_hasCustomer_4 (Nat.zero_le _) (Nat.zero_le _) ?_
  exact fin_z hx hb hr hlk (z_X2_isBetween ..) rfl dX2_hasCustomer_7
theorem kS_X2_hasCustomer {R : Room} {s : State} {args : Array Value} {own : String} {idx : Nat} {c0 : Cond} (hts : ∀ w ∈ c0 :: W0, w.before args s = true) (hl : Cond.methodLink own idx yX2_hasCustomer ∈ W0) (hR : rm_X2_hasCustomer.frames + 1 ≤ R.frames ∧ 8 + (1 + 11) + rm_X2_hasCustomer.locals ≤ R.locals) : CallB R s args own idx yX2_hasCustomer cX2_hasCustomer 1 (some .boolean) (Cond.code yX2_hasCustomer cX2_hasCustomer 1 (some .boolean) :: W0) rm_X2_hasCustomer 0 0 1 ∧ (Cond.static yX2_hasCustomer).before args s = true := va_cwS 1 hts (gdS hl mst_yX2_hasCustomer mini_X2 mc_yX2_hasCustomer) rfl rfl rfl (by decide +kernel) hR

theorem z_X2_hasCustomer {x : Int32} : f_X2_hasCustomer x = 0 ∨ f_X2_hasCustomer x = 1 := by
  unfold f_X2_hasCustomer
  (repeat' split) <;> first | exact Or.inl rfl | exact Or.inr rfl | exact z_X2_isBetween

/-! X2.isPrice -/
def f_X2_isPrice (x : Int32) : Int32 := (f_X2_isBetween x 100 20000)
abbrev rm_X2_isPrice : Room := { frames := 1, cells := 0, slots := 0, locals := 22 }
set_option maxRecDepth 100000 in
theorem c_X2_isPrice (l : Launch) (x : Int32) :
    Met l yX2_isPrice (Cond.code yX2_isPrice cX2_isPrice 1 (some .boolean) :: W0) rm_X2_isPrice (va_Pc [.int x] (fun _ => True)) (vp_Si (fun r => r = f_X2_isPrice x)) 0 0 (fun _ => False) := by
  refine st_gen (cc := cX2_isPrice) (maxL := 1) (ret := some .boolean) (own := RX2) (by decide) rfl (Nat.le_of_ble_eq_true rfl) ?_
  intro p e s m below meth c ls C hPre hl
  obtain ⟨hx, hb, hr, hml, hown, hts, hlk⟩ := C
  have hl : lv_has ls 1 [(0, .int (x))] := hl
  refine lv_iload_n hx hb dX2_isPrice_0 rfl (lv_at hl 0 rfl) ?_
  refine lv_bipush (v := 100) hx hb dX2_isPrice_1 (by decide) ?_
  refine lv_sipush (v := 20000) hx hb dX2_isPrice_3 (by decide) ?_
  refine cl_S (rest := []) hx hb hml hown hts (c_X2_isBetween l x 100 20000) (kS_X2_isBetween hts ml_X2_93 ⟨(Nat.le_of_ble_eq_true rfl), (Nat.le_of_ble_eq_true rfl)⟩) rfl hl.1 rfl (Nat.le_of_ble_eq_true rfl) dX2_isPrice_6 (Nat.zero_le _) (Nat.zero_le _) ?_
  exact fin_z hx hb hr hlk (z_X2_isBetween ..) rfl dX2_isPrice_9
theorem kS_X2_isPrice {R : Room} {s : State} {args : Array Value} {own : String} {idx : Nat} {c0 : Cond} (hts : ∀ w ∈ c0 :: W0, w.before args s = true) (hl : Cond.methodLink own idx yX2_isPrice ∈ W0) (hR : rm_X2_isPrice.frames + 1 ≤ R.frames ∧ 8 + (1 + 11) + rm_X2_isPrice.locals ≤ R.locals) : CallB R s args own idx yX2_isPrice cX2_isPrice 1 (some .boolean) (Cond.code yX2_isPrice cX2_isPrice 1 (some .boolean) :: W0) rm_X2_isPrice 0 0 1 ∧ (Cond.static yX2_isPrice).before args s = true := va_cwS 1 hts (gdS hl mst_yX2_isPrice mini_X2 mc_yX2_isPrice) rfl rfl rfl (by decide +kernel) hR

theorem z_X2_isPrice {x : Int32} : f_X2_isPrice x = 0 ∨ f_X2_isPrice x = 1 := by
  unfold f_X2_isPrice
  (repeat' split) <;> first | exact Or.inl rfl | exact Or.inr rfl | exact z_X2_isBetween

/-! X2.isEdition -/
def f_X2_isEdition (x : Int32) : Int32 := (f_X2_isBetween x 1 30)
abbrev rm_X2_isEdition : Room := { frames := 1, cells := 0, slots := 0, locals := 22 }
set_option maxRecDepth 100000 in
theorem c_X2_isEdition (l : Launch) (x : Int32) :
    Met l yX2_isEdition (Cond.code yX2_isEdition cX2_isEdition 1 (some .boolean) :: W0) rm_X2_isEdition (va_Pc [.int x] (fun _ => True)) (vp_Si (fun r => r = f_X2_isEdition x)) 0 0 (fun _ => False) := by
  refine st_gen (cc := cX2_isEdition) (maxL := 1) (ret := some .boolean) (own := RX2) (by decide) rfl (Nat.le_of_ble_eq_true rfl) ?_
  intro p e s m below meth c ls C hPre hl
  obtain ⟨hx, hb, hr, hml, hown, hts, hlk⟩ := C
  have hl : lv_has ls 1 [(0, .int (x))] := hl
  refine lv_iload_n hx hb dX2_isEdition_0 rfl (lv_at hl 0 rfl) ?_
  refine lv_iconst (v := 1) hx hb dX2_isEdition_1 (by decide) ?_
  refine lv_bipush (v := 30) hx hb dX2_isEdition_2 (by decide) ?_
  refine cl_S (rest := []) hx hb hml hown hts (c_X2_isBetween l x 1 30) (kS_X2_isBetween hts ml_X2_93 ⟨(Nat.le_of_ble_eq_true rfl), (Nat.le_of_ble_eq_true rfl)⟩) rfl hl.1 rfl (Nat.le_of_ble_eq_true rfl) dX2_isEdition_4 (Nat.zero_le _) (Nat.zero_le _) ?_
  exact fin_z hx hb hr hlk (z_X2_isBetween ..) rfl dX2_isEdition_7
theorem kS_X2_isEdition {R : Room} {s : State} {args : Array Value} {own : String} {idx : Nat} {c0 : Cond} (hts : ∀ w ∈ c0 :: W0, w.before args s = true) (hl : Cond.methodLink own idx yX2_isEdition ∈ W0) (hR : rm_X2_isEdition.frames + 1 ≤ R.frames ∧ 8 + (1 + 11) + rm_X2_isEdition.locals ≤ R.locals) : CallB R s args own idx yX2_isEdition cX2_isEdition 1 (some .boolean) (Cond.code yX2_isEdition cX2_isEdition 1 (some .boolean) :: W0) rm_X2_isEdition 0 0 1 ∧ (Cond.static yX2_isEdition).before args s = true := va_cwS 1 hts (gdS hl mst_yX2_isEdition mini_X2 mc_yX2_isEdition) rfl rfl rfl (by decide +kernel) hR

theorem z_X2_isEdition {x : Int32} : f_X2_isEdition x = 0 ∨ f_X2_isEdition x = 1 := by
  unfold f_X2_isEdition
  (repeat' split) <;> first | exact Or.inl rfl | exact Or.inr rfl | exact z_X2_isBetween

/-! X2.isGrade -/
def f_X2_isGrade (x : Int32) : Int32 := (f_X2_isBetween x 0 4)
abbrev rm_X2_isGrade : Room := { frames := 1, cells := 0, slots := 0, locals := 22 }
set_option maxRecDepth 100000 in
theorem c_X2_isGrade (l : Launch) (x : Int32) :
    Met l yX2_isGrade (Cond.code yX2_isGrade cX2_isGrade 1 (some .boolean) :: W0) rm_X2_isGrade (va_Pc [.int x] (fun _ => True)) (vp_Si (fun r => r = f_X2_isGrade x)) 0 0 (fun _ => False) := by
  refine st_gen (cc := cX2_isGrade) (maxL := 1) (ret := some .boolean) (own := RX2) (by decide) rfl (Nat.le_of_ble_eq_true rfl) ?_
  intro p e s m below meth c ls C hPre hl
  obtain ⟨hx, hb, hr, hml, hown, hts, hlk⟩ := C
  have hl : lv_has ls 1 [(0, .int (x))] := hl
  refine lv_iload_n hx hb dX2_isGrade_0 rfl (lv_at hl 0 rfl) ?_
  refine lv_iconst (v := 0) hx hb dX2_isGrade_1 (by decide) ?_
  refine lv_iconst (v := 4) hx hb dX2_isGrade_2 (by decide) ?_
  refine cl_S (rest := []) hx hb hml hown hts (c_X2_isBetween l x 0 4) (kS_X2_isBetween hts ml_X2_93 ⟨(Nat.le_of_ble_eq_true rfl), (Nat.le_of_ble_eq_true rfl)⟩) rfl hl.1 rfl (Nat.le_of_ble_eq_true rfl) dX2_isGrade_3 (Nat.zero_le _) (Nat.zero_le _) ?_
  exact fin_z hx hb hr hlk (z_X2_isBetween ..) rfl dX2_isGrade_6
theorem kS_X2_isGrade {R : Room} {s : State} {args : Array Value} {own : String} {idx : Nat} {c0 : Cond} (hts : ∀ w ∈ c0 :: W0, w.before args s = true) (hl : Cond.methodLink own idx yX2_isGrade ∈ W0) (hR : rm_X2_isGrade.frames + 1 ≤ R.frames ∧ 8 + (1 + 11) + rm_X2_isGrade.locals ≤ R.locals) : CallB R s args own idx yX2_isGrade cX2_isGrade 1 (some .boolean) (Cond.code yX2_isGrade cX2_isGrade 1 (some .boolean) :: W0) rm_X2_isGrade 0 0 1 ∧ (Cond.static yX2_isGrade).before args s = true := va_cwS 1 hts (gdS hl mst_yX2_isGrade mini_X2 mc_yX2_isGrade) rfl rfl rfl (by decide +kernel) hR

theorem z_X2_isGrade {x : Int32} : f_X2_isGrade x = 0 ∨ f_X2_isGrade x = 1 := by
  unfold f_X2_isGrade
  (repeat' split) <;> first | exact Or.inl rfl | exact Or.inr rfl | exact z_X2_isBetween

/-! X2.hasTitle -/
def f_X2_hasTitle (σ : Nat → Nat → Int32) (x : Int32) : Int32 := (f_X2_isBetween x 0 ((σ 1 0) - 1))
abbrev rm_X2_hasTitle : Room := { frames := 1, cells := 0, slots := 0, locals := 22 }
set_option maxRecDepth 100000 in
theorem c_X2_hasTitle (l : Launch) (D : va_G) (cI : ClassId) (o : Nat) (a : Nat → Nat) (σ : Nat → Nat → Int32) (x : Int32) :
    Met l yX2_hasTitle (Cond.code yX2_hasTitle cX2_hasTitle 2 (some .boolean) :: W0) rm_X2_hasTitle (va_Pc [.ref o, .int x] (shP D cI o a σ)) (vp_Si (fun r => r = f_X2_hasTitle σ x)) 0 0 (fun _ => False) := by
  refine st_gen (cc := cX2_hasTitle) (maxL := 2) (ret := some .boolean) (own := RX2) (by decide) rfl (Nat.le_of_ble_eq_true rfl) ?_
  intro p e s m below meth c ls C hPre hl
  obtain ⟨hx, hb, hr, hml, hown, hts, hlk⟩ := C
  obtain ⟨hP, hK⟩ := hPre
  have hl : lv_has ls 2 [(0, .ref (o)), (1, .int (x))] := hl
  refine lv_iload_n hx hb dX2_hasTitle_0 rfl (lv_at hl 1 rfl) ?_
  refine lv_iconst (v := 0) hx hb dX2_hasTitle_1 (by decide) ?_
  refine lv_aload_n hx hb dX2_hasTitle_2 rfl (lv_at hl 0 rfl) ?_
  refine sh_g1 hx hb hts hown hK hP (v := σ 1 0) rfl dX2_hasTitle_3 ?_
  refine lv_iconst (v := 1) hx hb dX2_hasTitle_6 (by decide) ?_
  refine lv_isub hx hb dX2_hasTitle_7 ?_
  refine cl_S (rest := []) hx hb hml hown hts (c_X2_isBetween l x 0 ((σ 1 0) - 1)) (kS_X2_isBetween hts ml_X2_93 ⟨(Nat.le_of_ble_eq_true rfl), (Nat.le_of_ble_eq_true rfl)⟩) rfl hl.1 rfl (Nat.le_of_ble_eq_true rfl) dX2_hasTitle_8 (Nat.zero_le _) (Nat.zero_le _) ?_
  exact fin_z hx hb hr hlk (z_X2_isBetween ..) rfl dX2_hasTitle_11
theorem kV_X2_hasTitle {R : Room} {s : State} {args : Array Value} {own : String} {idx : Nat} {c0 : Cond} (hts : ∀ w ∈ c0 :: W0, w.before args s = true) (hl : Cond.methodLink own idx yX2_hasTitle ∈ W0) (hR : rm_X2_hasTitle.frames + 1 ≤ R.frames ∧ 8 + (2 + 11) + rm_X2_hasTitle.locals ≤ R.locals) : CallW R s args own RX2 idx yX2_hasTitle cX2_hasTitle 2 (some .boolean) (Cond.code yX2_hasTitle cX2_hasTitle 2 (some .boolean) :: W0) rm_X2_hasTitle 0 0 1 := cwV 1 hts (gdV hl mi_yX2_hasTitle ms_yX2_hasTitle mini_X2 mc_yX2_hasTitle) rfl rfl rfl (by decide +kernel) hR

theorem z_X2_hasTitle {σ : Nat → Nat → Int32} {x : Int32} : f_X2_hasTitle σ x = 0 ∨ f_X2_hasTitle σ x = 1 := by
  unfold f_X2_hasTitle
  (repeat' split) <;> first | exact Or.inl rfl | exact Or.inr rfl | exact z_X2_isBetween

/-! X2.hasCourse -/
def f_X2_hasCourse (σ : Nat → Nat → Int32) (x : Int32) : Int32 := (f_X2_isBetween x 0 ((σ 2 0) - 1))
abbrev rm_X2_hasCourse : Room := { frames := 1, cells := 0, slots := 0, locals := 22 }
set_option maxRecDepth 100000 in
theorem c_X2_hasCourse (l : Launch) (D : va_G) (cI : ClassId) (o : Nat) (a : Nat → Nat) (σ : Nat → Nat → Int32) (x : Int32) :
    Met l yX2_hasCourse (Cond.code yX2_hasCourse cX2_hasCourse 2 (some .boolean) :: W0) rm_X2_hasCourse (va_Pc [.ref o, .int x] (shP D cI o a σ)) (vp_Si (fun r => r = f_X2_hasCourse σ x)) 0 0 (fun _ => False) := by
  refine st_gen (cc := cX2_hasCourse) (maxL := 2) (ret := some .boolean) (own := RX2) (by decide) rfl (Nat.le_of_ble_eq_true rfl) ?_
  intro p e s m below meth c ls C hPre hl
  obtain ⟨hx, hb, hr, hml, hown, hts, hlk⟩ := C
  obtain ⟨hP, hK⟩ := hPre
  have hl : lv_has ls 2 [(0, .ref (o)), (1, .int (x))] := hl
  refine lv_iload_n hx hb dX2_hasCourse_0 rfl (lv_at hl 1 rfl) ?_
  refine lv_iconst (v := 0) hx hb dX2_hasCourse_1 (by decide) ?_
  refine lv_aload_n hx hb dX2_hasCourse_2 rfl (lv_at hl 0 rfl) ?_
  refine sh_g2 hx hb hts hown hK hP (v := σ 2 0) rfl dX2_hasCourse_3 ?_
  refine lv_iconst (v := 1) hx hb dX2_hasCourse_6 (by decide) ?_
  refine lv_isub hx hb dX2_hasCourse_7 ?_
  refine cl_S (rest := []) hx hb hml hown hts (c_X2_isBetween l x 0 ((σ 2 0) - 1)) (kS_X2_isBetween hts ml_X2_93 ⟨(Nat.le_of_ble_eq_true rfl), (Nat.le_of_ble_eq_true rfl)⟩) rfl hl.1 rfl (Nat.le_of_ble_eq_true rfl) dX2_hasCourse_8 (Nat.zero_le _) (Nat.zero_le _) ?_
  exact fin_z hx hb hr hlk (z_X2_isBetween ..) rfl dX2_hasCourse_11
theorem kV_X2_hasCourse {R : Room} {s : State} {args : Array Value} {own : String} {idx : Nat} {c0 : Cond} (hts : ∀ w ∈ c0 :: W0, w.before args s = true) (hl : Cond.methodLink own idx yX2_hasCourse ∈ W0) (hR : rm_X2_hasCourse.frames + 1 ≤ R.frames ∧ 8 + (2 + 11) + rm_X2_hasCourse.locals ≤ R.locals) : CallW R s args own RX2 idx yX2_hasCourse cX2_hasCourse 2 (some .boolean) (Cond.code yX2_hasCourse cX2_hasCourse 2 (some .boolean) :: W0) rm_X2_hasCourse 0 0 1 := cwV 1 hts (gdV hl mi_yX2_hasCourse ms_yX2_hasCourse mini_X2 mc_yX2_hasCourse) rfl rfl rfl (by decide +kernel) hR

theorem z_X2_hasCourse {σ : Nat → Nat → Int32} {x : Int32} : f_X2_hasCourse σ x = 0 ∨ f_X2_hasCourse σ x = 1 := by
  unfold f_X2_hasCourse
  (repeat' split) <;> first | exact Or.inl rfl | exact Or.inr rfl | exact z_X2_isBetween

/-! X2.hasCopy -/
def f_X2_hasCopy (σ : Nat → Nat → Int32) (x : Int32) : Int32 := (f_X2_isBetween x 0 ((σ 3 0) - 1))
abbrev rm_X2_hasCopy : Room := { frames := 1, cells := 0, slots := 0, locals := 22 }
set_option maxRecDepth 100000 in
theorem c_X2_hasCopy (l : Launch) (D : va_G) (cI : ClassId) (o : Nat) (a : Nat → Nat) (σ : Nat → Nat → Int32) (x : Int32) :
    Met l yX2_hasCopy (Cond.code yX2_hasCopy cX2_hasCopy 2 (some .boolean) :: W0) rm_X2_hasCopy (va_Pc [.ref o, .int x] (shP D cI o a σ)) (vp_Si (fun r => r = f_X2_hasCopy σ x)) 0 0 (fun _ => False) := by
  refine st_gen (cc := cX2_hasCopy) (maxL := 2) (ret := some .boolean) (own := RX2) (by decide) rfl (Nat.le_of_ble_eq_true rfl) ?_
  intro p e s m below meth c ls C hPre hl
  obtain ⟨hx, hb, hr, hml, hown, hts, hlk⟩ := C
  obtain ⟨hP, hK⟩ := hPre
  have hl : lv_has ls 2 [(0, .ref (o)), (1, .int (x))] := hl
  refine lv_iload_n hx hb dX2_hasCopy_0 rfl (lv_at hl 1 rfl) ?_
  refine lv_iconst (v := 0) hx hb dX2_hasCopy_1 (by decide) ?_
  refine lv_aload_n hx hb dX2_hasCopy_2 rfl (lv_at hl 0 rfl) ?_
  refine sh_g3 hx hb hts hown hK hP (v := σ 3 0) rfl dX2_hasCopy_3 ?_
  refine lv_iconst (v := 1) hx hb dX2_hasCopy_6 (by decide) ?_
  refine lv_isub hx hb dX2_hasCopy_7 ?_
  refine cl_S (rest := []) hx hb hml hown hts (c_X2_isBetween l x 0 ((σ 3 0) - 1)) (kS_X2_isBetween hts ml_X2_93 ⟨(Nat.le_of_ble_eq_true rfl), (Nat.le_of_ble_eq_true rfl)⟩) rfl hl.1 rfl (Nat.le_of_ble_eq_true rfl) dX2_hasCopy_8 (Nat.zero_le _) (Nat.zero_le _) ?_
  exact fin_z hx hb hr hlk (z_X2_isBetween ..) rfl dX2_hasCopy_11
theorem kV_X2_hasCopy {R : Room} {s : State} {args : Array Value} {own : String} {idx : Nat} {c0 : Cond} (hts : ∀ w ∈ c0 :: W0, w.before args s = true) (hl : Cond.methodLink own idx yX2_hasCopy ∈ W0) (hR : rm_X2_hasCopy.frames + 1 ≤ R.frames ∧ 8 + (2 + 11) + rm_X2_hasCopy.locals ≤ R.locals) : CallW R s args own RX2 idx yX2_hasCopy cX2_hasCopy 2 (some .boolean) (Cond.code yX2_hasCopy cX2_hasCopy 2 (some .boolean) :: W0) rm_X2_hasCopy 0 0 1 := cwV 1 hts (gdV hl mi_yX2_hasCopy ms_yX2_hasCopy mini_X2 mc_yX2_hasCopy) rfl rfl rfl (by decide +kernel) hR

theorem z_X2_hasCopy {σ : Nat → Nat → Int32} {x : Int32} : f_X2_hasCopy σ x = 0 ∨ f_X2_hasCopy σ x = 1 := by
  unfold f_X2_hasCopy
  (repeat' split) <;> first | exact Or.inl rfl | exact Or.inr rfl | exact z_X2_isBetween

/-! X2.takes -/
def f_X2_takes (σ : Nat → Nat → Int32) (jc : Nat) (y : Int32) (z : Int32) : Int32 := (if (σ 7 jc) = y then (if z < (σ 8 jc) then 0 else 1) else 0)
abbrev rm_X2_takes : Room := { frames := 0, cells := 0, slots := 0, locals := 0 }
set_option maxRecDepth 100000 in
theorem c_X2_takes (l : Launch) (D : va_G) (cI : ClassId) (o : Nat) (a : Nat → Nat) (σ : Nat → Nat → Int32) (x : Int32) (jc : Nat) (hx : x = nI jc) (y : Int32) (z : Int32) (hok : okS σ) (hjc : jc < nC σ) :
    Met l yX2_takes (Cond.code yX2_takes cX2_takes 4 (some .boolean) :: W0) rm_X2_takes (va_Pc [.ref o, .int x, .int y, .int z] (shP D cI o a σ)) (vp_Si (fun r => r = f_X2_takes σ jc y z)) 0 0 (fun _ => False) := by
  subst hx
  refine st_gen (cc := cX2_takes) (maxL := 4) (ret := some .boolean) (own := RX2) (by decide) rfl (Nat.le_of_ble_eq_true rfl) ?_
  intro p e s m below meth c ls C hPre hl
  obtain ⟨hx, hb, hr, hml, hown, hts, hlk⟩ := C
  obtain ⟨hP, hK⟩ := hPre
  have hl : lv_has ls 4 [(0, .ref (o)), (1, .int (nI jc)), (2, .int (y)), (3, .int (z))] := hl
  obtain ⟨hT6, hC6, hN6⟩ := okS_b hok
  refine lv_aload_n hx hb dX2_takes_0 rfl (lv_at hl 0 rfl) ?_
  refine sh_g7 hx hb hts hown hK hP dX2_takes_1 ?_
  refine lv_iload_n hx hb dX2_takes_4 rfl (lv_at hl 1 rfl) ?_
  refine sh_r7 hx hb hK hP (jc) rfl (by omega) (v := σ 7 jc) rfl dX2_takes_5 ?_
  refine lv_iload_n hx hb dX2_takes_6 rfl (lv_at hl 2 rfl) ?_
  refine lv_icmp_ne (tgt := 24) hx hb dX2_takes_7 (by decide) (fun c_7 => ?_) (fun c_7 => ?_)
  · refine lv_iconst (v := 0) hx hb dX2_takes_24 (by decide) ?_
    exact fin_z hx hb hr hlk (Or.inl rfl) (br_n c_7 rfl) dX2_takes_25
  refine lv_iload_n hx hb dX2_takes_10 rfl (lv_at hl 3 rfl) ?_
  refine lv_aload_n hx hb dX2_takes_11 rfl (lv_at hl 0 rfl) ?_
  refine sh_g8 hx hb hts hown hK hP dX2_takes_12 ?_
  refine lv_iload_n hx hb dX2_takes_15 rfl (lv_at hl 1 rfl) ?_
  refine sh_r8 hx hb hK hP (jc) rfl (by omega) (v := σ 8 jc) rfl dX2_takes_16 ?_
  refine lv_icmp_lt (tgt := 24) hx hb dX2_takes_17 (by decide) (fun c_17 => ?_) (fun c_17 => ?_)
  · refine lv_iconst (v := 0) hx hb dX2_takes_24 (by decide) ?_
    exact fin_z hx hb hr hlk (Or.inl rfl) (br_p c_7 (br_p c_17 rfl)) dX2_takes_25
  refine lv_iconst (v := 1) hx hb dX2_takes_20 (by decide) ?_
  refine lv_goto (tgt := 25) hx hb dX2_takes_21 (by decide) ?_
  exact fin_z hx hb hr hlk (Or.inr rfl) (br_p c_7 (br_n c_17 rfl)) dX2_takes_25
theorem kV_X2_takes {R : Room} {s : State} {args : Array Value} {own : String} {idx : Nat} {c0 : Cond} (hts : ∀ w ∈ c0 :: W0, w.before args s = true) (hl : Cond.methodLink own idx yX2_takes ∈ W0) (hR : rm_X2_takes.frames + 1 ≤ R.frames ∧ 8 + (4 + 11) + rm_X2_takes.locals ≤ R.locals) : CallW R s args own RX2 idx yX2_takes cX2_takes 4 (some .boolean) (Cond.code yX2_takes cX2_takes 4 (some .boolean) :: W0) rm_X2_takes 0 0 3 := cwV 3 hts (gdV hl mi_yX2_takes ms_yX2_takes mini_X2 mc_yX2_takes) rfl rfl rfl (by decide +kernel) hR

theorem z_X2_takes {σ : Nat → Nat → Int32} {jc : Nat} {y : Int32} {z : Int32} : f_X2_takes σ jc y z = 0 ∨ f_X2_takes σ jc y z = 1 := by
  unfold f_X2_takes
  (repeat' split) <;> first | exact Or.inl rfl | exact Or.inr rfl

/-! X2.isOwned -/
def f_X2_isOwned (σ : Nat → Nat → Int32) (k : Nat) : Int32 := (if (σ 13 k) = 0 then 1 else (if (σ 13 k) = 1 then 1 else (if (σ 13 k) = 4 then 1 else 0)))
abbrev rm_X2_isOwned : Room := { frames := 0, cells := 0, slots := 0, locals := 0 }
set_option maxRecDepth 100000 in
theorem c_X2_isOwned (l : Launch) (D : va_G) (cI : ClassId) (o : Nat) (a : Nat → Nat) (σ : Nat → Nat → Int32) (x : Int32) (k : Nat) (hx : x = nI k) (hok : okS σ) (hk : k < nN σ) :
    Met l yX2_isOwned (Cond.code yX2_isOwned cX2_isOwned 2 (some .boolean) :: W0) rm_X2_isOwned (va_Pc [.ref o, .int x] (shP D cI o a σ)) (vp_Si (fun r => r = f_X2_isOwned σ k)) 0 0 (fun _ => False) := by
  subst hx
  refine st_gen (cc := cX2_isOwned) (maxL := 2) (ret := some .boolean) (own := RX2) (by decide) rfl (Nat.le_of_ble_eq_true rfl) ?_
  intro p e s m below meth c ls C hPre hl
  obtain ⟨hx, hb, hr, hml, hown, hts, hlk⟩ := C
  obtain ⟨hP, hK⟩ := hPre
  have hl : lv_has ls 2 [(0, .ref (o)), (1, .int (nI k))] := hl
  obtain ⟨hT6, hC6, hN6⟩ := okS_b hok
  refine lv_aload_n hx hb dX2_isOwned_0 rfl (lv_at hl 0 rfl) ?_
  refine sh_g13 hx hb hts hown hK hP dX2_isOwned_1 ?_
  refine lv_iload_n hx hb dX2_isOwned_4 rfl (lv_at hl 1 rfl) ?_
  refine sh_r13 hx hb hK hP (k) rfl (by omega) (v := σ 13 k) rfl dX2_isOwned_5 ?_
  refine lv_if_eq (tgt := 29) hx hb dX2_isOwned_6 (by decide) (fun c_6 => ?_) (fun c_6 => ?_)
  · refine lv_iconst (v := 1) hx hb dX2_isOwned_29 (by decide) ?_
    refine lv_goto (tgt := 34) hx hb dX2_isOwned_30 (by decide) ?_
    exact fin_z hx hb hr hlk (Or.inr rfl) (br_p c_6 rfl) dX2_isOwned_34
  refine lv_aload_n hx hb dX2_isOwned_9 rfl (lv_at hl 0 rfl) ?_
  refine sh_g13 hx hb hts hown hK hP dX2_isOwned_10 ?_
  refine lv_iload_n hx hb dX2_isOwned_13 rfl (lv_at hl 1 rfl) ?_
  refine sh_r13 hx hb hK hP (k) rfl (by omega) (v := σ 13 k) rfl dX2_isOwned_14 ?_
  refine lv_iconst (v := 1) hx hb dX2_isOwned_15 (by decide) ?_
  refine lv_icmp_eq (tgt := 29) hx hb dX2_isOwned_16 (by decide) (fun c_16 => ?_) (fun c_16 => ?_)
  · refine lv_iconst (v := 1) hx hb dX2_isOwned_29 (by decide) ?_
    refine lv_goto (tgt := 34) hx hb dX2_isOwned_30 (by decide) ?_
    exact fin_z hx hb hr hlk (Or.inr rfl) (br_n c_6 (br_p c_16 rfl)) dX2_isOwned_34
  refine lv_aload_n hx hb dX2_isOwned_19 rfl (lv_at hl 0 rfl) ?_
  refine sh_g13 hx hb hts hown hK hP dX2_isOwned_20 ?_
  refine lv_iload_n hx hb dX2_isOwned_23 rfl (lv_at hl 1 rfl) ?_
  refine sh_r13 hx hb hK hP (k) rfl (by omega) (v := σ 13 k) rfl dX2_isOwned_24 ?_
  refine lv_iconst (v := 4) hx hb dX2_isOwned_25 (by decide) ?_
  refine lv_icmp_ne (tgt := 33) hx hb dX2_isOwned_26 (by decide) (fun c_26 => ?_) (fun c_26 => ?_)
  · refine lv_iconst (v := 0) hx hb dX2_isOwned_33 (by decide) ?_
    exact fin_z hx hb hr hlk (Or.inl rfl) (br_n c_6 (br_n c_16 (br_n c_26 rfl))) dX2_isOwned_34
  refine lv_iconst (v := 1) hx hb dX2_isOwned_29 (by decide) ?_
  refine lv_goto (tgt := 34) hx hb dX2_isOwned_30 (by decide) ?_
  exact fin_z hx hb hr hlk (Or.inr rfl) (br_n c_6 (br_n c_16 (br_p c_26 rfl))) dX2_isOwned_34
theorem kV_X2_isOwned {R : Room} {s : State} {args : Array Value} {own : String} {idx : Nat} {c0 : Cond} (hts : ∀ w ∈ c0 :: W0, w.before args s = true) (hl : Cond.methodLink own idx yX2_isOwned ∈ W0) (hR : rm_X2_isOwned.frames + 1 ≤ R.frames ∧ 8 + (2 + 11) + rm_X2_isOwned.locals ≤ R.locals) : CallW R s args own RX2 idx yX2_isOwned cX2_isOwned 2 (some .boolean) (Cond.code yX2_isOwned cX2_isOwned 2 (some .boolean) :: W0) rm_X2_isOwned 0 0 1 := cwV 1 hts (gdV hl mi_yX2_isOwned ms_yX2_isOwned mini_X2 mc_yX2_isOwned) rfl rfl rfl (by decide +kernel) hR

theorem z_X2_isOwned {σ : Nat → Nat → Int32} {k : Nat} : f_X2_isOwned σ k = 0 ∨ f_X2_isOwned σ k = 1 := by
  unfold f_X2_isOwned
  (repeat' split) <;> first | exact Or.inl rfl | exact Or.inr rfl

/-! X2.copiesIn -/
def g_X2_copiesIn_4 (σ : Nat → Nat → Int32) (x : Int32) : Nat → (Nat) → (Int32) → Int32
  | 0, k, x2 => x2
  | fu + 1, k, x2 => (if nN σ ≤ k then x2 else (if (σ 13 k) = x then g_X2_copiesIn_4 σ x fu (k + 1) (x2 + 1) else g_X2_copiesIn_4 σ x fu (k + 1) x2))
def f_X2_copiesIn (σ : Nat → Nat → Int32) (x : Int32) : Int32 := (g_X2_copiesIn_4 σ x (nN σ + 1) 0 0)
abbrev rm_X2_copiesIn : Room := { frames := 0, cells := 0, slots := 0, locals := 0 }
set_option maxRecDepth 100000 in
theorem c_X2_copiesIn (l : Launch) (D : va_G) (cI : ClassId) (o : Nat) (a : Nat → Nat) (σ : Nat → Nat → Int32) (x : Int32) (hok : okS σ) :
    Met l yX2_copiesIn (Cond.code yX2_copiesIn cX2_copiesIn 4 (some .int) :: W0) rm_X2_copiesIn (va_Pc [.ref o, .int x] (shP D cI o a σ)) (vp_Si (fun r => r = f_X2_copiesIn σ x)) 0 0 (fun _ => False) := by
  refine st_gen (cc := cX2_copiesIn) (maxL := 4) (ret := some .int) (own := RX2) (by decide) rfl (Nat.le_of_ble_eq_true rfl) ?_
  intro p e s m below meth c ls C hPre hl
  obtain ⟨hx, hb, hr, hml, hown, hts, hlk⟩ := C
  obtain ⟨hP, hK⟩ := hPre
  have hl : lv_has ls 4 [(0, .ref (o)), (1, .int (x))] := hl
  obtain ⟨hT6, hC6, hN6⟩ := okS_b hok
  refine lv_iconst (v := 0) hx hb dX2_copiesIn_0 (by decide) ?_
  refine lv_istore_n (lv' := [(2, .int (0)), (0, .ref (o)), (1, .int (x))]) hx hb dX2_copiesIn_1 rfl hl (by decide) rfl (fun ls hl => ?_)
  refine lv_iconst (v := 0) hx hb dX2_copiesIn_2 (by decide) ?_
  refine lv_istore_n (lv' := [(3, .int (0)), (2, .int (0)), (0, .ref (o)), (1, .int (x))]) hx hb dX2_copiesIn_3 rfl hl (by decide) rfl (fun ls hl => ?_)
  have K_31 : ∀ ls, lv_has ls 4 [(0, .ref (o)), (1, .int (x)), (2, .int ((g_X2_copiesIn_4 σ x (nN σ + 1) 0 0)))] → W p l e rm_X2_copiesIn s m (([.ref (o), .int (x)] : List Value).toArray) below meth c s.heap [] 0 0 (MQ below (vp_Si (fun r => r = f_X2_copiesIn σ x)) ([.ref (o), .int (x)] : List Value).toArray s 0 0 (fun _ => False)) (F0 m 31 ls []) := by
    intro ls hl
    refine lv_iload_n hx hb dX2_copiesIn_31 rfl (lv_at hl 2 rfl) ?_
    exact fin_i hx hb hr hlk rfl dX2_copiesIn_32
  have L_4 : ∀ (fu : Nat) (k : Nat) (x2 : Int32), nN σ - k < fu → k ≤ nN σ → g_X2_copiesIn_4 σ x fu k x2 = g_X2_copiesIn_4 σ x (nN σ + 1) 0 0 → ∀ ls, lv_has ls 4 [(0, .ref (o)), (1, .int (x)), (3, .int (nI k)), (2, .int (x2))] → W p l e rm_X2_copiesIn s m (([.ref (o), .int (x)] : List Value).toArray) below meth c s.heap [] 0 0 (MQ below (vp_Si (fun r => r = f_X2_copiesIn σ x)) ([.ref (o), .int (x)] : List Value).toArray s 0 0 (fun _ => False)) (F0 m 4 ls []) := by
    intro fu
    induction fu with
    | zero => intro k x2 hm; exact absurd hm (Nat.not_lt_zero _)
    | succ fu ih =>
      intro k x2 hm hkN hg_4 ls hl
      refine lv_iload_n hx hb dX2_copiesIn_4 rfl (lv_at hl 2 rfl) ?_
      refine lv_aload_n hx hb dX2_copiesIn_5 rfl (lv_at hl 0 rfl) ?_
      refine sh_g3 hx hb hts hown hK hP (v := σ 3 0) rfl dX2_copiesIn_6 ?_
      refine lv_icmp_geN (k) (nN σ) hx hb rfl (okS_3 (σ := σ) (by assumption)) (by omega) (by omega) (tgt := 31) dX2_copiesIn_9 (by decide) (fun c_9 => ?_) (fun c_9 => ?_)
      · have ex : x2 = g_X2_copiesIn_4 σ x (nN σ + 1) 0 0 := ((br_p c_9 rfl) : x2 = g_X2_copiesIn_4 σ x (fu + 1) k x2).trans hg_4
        exact K_31 ls (by rw [← ex]; exact lv_sub hl [0, 1, 3] rfl)
      refine lv_aload_n hx hb dX2_copiesIn_12 rfl (lv_at hl 0 rfl) ?_
      refine sh_g13 hx hb hts hown hK hP dX2_copiesIn_13 ?_
      refine lv_iload_n hx hb dX2_copiesIn_16 rfl (lv_at hl 2 rfl) ?_
      refine sh_r13 hx hb hK hP (k) rfl (by omega) (v := σ 13 k) rfl dX2_copiesIn_17 ?_
      refine lv_iload_n hx hb dX2_copiesIn_18 rfl (lv_at hl 1 rfl) ?_
      refine lv_icmp_ne (tgt := 25) hx hb dX2_copiesIn_19 (by decide) (fun c_19 => ?_) (fun c_19 => ?_)
      · refine lv_iinc (v := nI (k + 1)) (lv' := [(3, .int (nI (k + 1))), (0, .ref (o)), (1, .int (x)), (2, .int (x2))]) hx hb dX2_copiesIn_25 hl (k := 2) rfl (nI_c1 _) (by decide) rfl (fun ls hl => ?_)
        refine lv_goto (tgt := 4) hx hb dX2_copiesIn_28 (by decide) ?_
        exact ih (k + 1) x2 (by omega) (by omega) (((br_n c_9 (br_n c_19 rfl)) : g_X2_copiesIn_4 σ x fu (k + 1) x2 = g_X2_copiesIn_4 σ x (fu + 1) k x2).trans hg_4) ls (lv_sub hl [1, 2, 0, 3] rfl)
      refine lv_iinc (v := x2 + 1) (lv' := [(2, .int (x2 + 1)), (0, .ref (o)), (1, .int (x)), (3, .int (nI k))]) hx hb dX2_copiesIn_22 hl (k := 3) rfl rfl (by decide) rfl (fun ls hl => ?_)
      refine lv_iinc (v := nI (k + 1)) (lv' := [(3, .int (nI (k + 1))), (2, .int (x2 + 1)), (0, .ref (o)), (1, .int (x))]) hx hb dX2_copiesIn_25 hl (k := 3) rfl (nI_c1 _) (by decide) rfl (fun ls hl => ?_)
      refine lv_goto (tgt := 4) hx hb dX2_copiesIn_28 (by decide) ?_
      exact ih (k + 1) (x2 + 1) (by omega) (by omega) (((br_n c_9 (br_p c_19 rfl)) : g_X2_copiesIn_4 σ x fu (k + 1) (x2 + 1) = g_X2_copiesIn_4 σ x (fu + 1) k x2).trans hg_4) ls (lv_sub hl [2, 3, 0, 1] rfl)
  exact L_4 (nN σ + 1) 0 0 (by omega) (by omega) rfl ls (lv_sub hl [2, 3, 0, 1] rfl)
theorem kV_X2_copiesIn {R : Room} {s : State} {args : Array Value} {own : String} {idx : Nat} {c0 : Cond} (hts : ∀ w ∈ c0 :: W0, w.before args s = true) (hl : Cond.methodLink own idx yX2_copiesIn ∈ W0) (hR : rm_X2_copiesIn.frames + 1 ≤ R.frames ∧ 8 + (4 + 11) + rm_X2_copiesIn.locals ≤ R.locals) : CallW R s args own RX2 idx yX2_copiesIn cX2_copiesIn 4 (some .int) (Cond.code yX2_copiesIn cX2_copiesIn 4 (some .int) :: W0) rm_X2_copiesIn 0 0 1 := cwV 1 hts (gdV hl mi_yX2_copiesIn ms_yX2_copiesIn mini_X2 mc_yX2_copiesIn) rfl rfl rfl (by decide +kernel) hR

/-! X2.copiesOf -/
def g_X2_copiesOf_4 (σ : Nat → Nat → Int32) (x : Int32) : Nat → (Nat) → (Int32) → Int32
  | 0, k, x2 => x2
  | fu + 1, k, x2 => (if nN σ ≤ k then x2 else (if (σ 10 k) = x then g_X2_copiesOf_4 σ x fu (k + 1) (x2 + 1) else g_X2_copiesOf_4 σ x fu (k + 1) x2))
def f_X2_copiesOf (σ : Nat → Nat → Int32) (x : Int32) : Int32 := (g_X2_copiesOf_4 σ x (nN σ + 1) 0 0)
abbrev rm_X2_copiesOf : Room := { frames := 0, cells := 0, slots := 0, locals := 0 }
set_option maxRecDepth 100000 in
theorem c_X2_copiesOf (l : Launch) (D : va_G) (cI : ClassId) (o : Nat) (a : Nat → Nat) (σ : Nat → Nat → Int32) (x : Int32) (hok : okS σ) :
    Met l yX2_copiesOf (Cond.code yX2_copiesOf cX2_copiesOf 4 (some .int) :: W0) rm_X2_copiesOf (va_Pc [.ref o, .int x] (shP D cI o a σ)) (vp_Si (fun r => r = f_X2_copiesOf σ x)) 0 0 (fun _ => False) := by
  refine st_gen (cc := cX2_copiesOf) (maxL := 4) (ret := some .int) (own := RX2) (by decide) rfl (Nat.le_of_ble_eq_true rfl) ?_
  intro p e s m below meth c ls C hPre hl
  obtain ⟨hx, hb, hr, hml, hown, hts, hlk⟩ := C
  obtain ⟨hP, hK⟩ := hPre
  have hl : lv_has ls 4 [(0, .ref (o)), (1, .int (x))] := hl
  obtain ⟨hT6, hC6, hN6⟩ := okS_b hok
  refine lv_iconst (v := 0) hx hb dX2_copiesOf_0 (by decide) ?_
  refine lv_istore_n (lv' := [(2, .int (0)), (0, .ref (o)), (1, .int (x))]) hx hb dX2_copiesOf_1 rfl hl (by decide) rfl (fun ls hl => ?_)
  refine lv_iconst (v := 0) hx hb dX2_copiesOf_2 (by decide) ?_
  refine lv_istore_n (lv' := [(3, .int (0)), (2, .int (0)), (0, .ref (o)), (1, .int (x))]) hx hb dX2_copiesOf_3 rfl hl (by decide) rfl (fun ls hl => ?_)
  have K_31 : ∀ ls, lv_has ls 4 [(0, .ref (o)), (1, .int (x)), (2, .int ((g_X2_copiesOf_4 σ x (nN σ + 1) 0 0)))] → W p l e rm_X2_copiesOf s m (([.ref (o), .int (x)] : List Value).toArray) below meth c s.heap [] 0 0 (MQ below (vp_Si (fun r => r = f_X2_copiesOf σ x)) ([.ref (o), .int (x)] : List Value).toArray s 0 0 (fun _ => False)) (F0 m 31 ls []) := by
    intro ls hl
    refine lv_iload_n hx hb dX2_copiesOf_31 rfl (lv_at hl 2 rfl) ?_
    exact fin_i hx hb hr hlk rfl dX2_copiesOf_32
  have L_4 : ∀ (fu : Nat) (k : Nat) (x2 : Int32), nN σ - k < fu → k ≤ nN σ → g_X2_copiesOf_4 σ x fu k x2 = g_X2_copiesOf_4 σ x (nN σ + 1) 0 0 → ∀ ls, lv_has ls 4 [(0, .ref (o)), (1, .int (x)), (3, .int (nI k)), (2, .int (x2))] → W p l e rm_X2_copiesOf s m (([.ref (o), .int (x)] : List Value).toArray) below meth c s.heap [] 0 0 (MQ below (vp_Si (fun r => r = f_X2_copiesOf σ x)) ([.ref (o), .int (x)] : List Value).toArray s 0 0 (fun _ => False)) (F0 m 4 ls []) := by
    intro fu
    induction fu with
    | zero => intro k x2 hm; exact absurd hm (Nat.not_lt_zero _)
    | succ fu ih =>
      intro k x2 hm hkN hg_4 ls hl
      refine lv_iload_n hx hb dX2_copiesOf_4 rfl (lv_at hl 2 rfl) ?_
      refine lv_aload_n hx hb dX2_copiesOf_5 rfl (lv_at hl 0 rfl) ?_
      refine sh_g3 hx hb hts hown hK hP (v := σ 3 0) rfl dX2_copiesOf_6 ?_
      refine lv_icmp_geN (k) (nN σ) hx hb rfl (okS_3 (σ := σ) (by assumption)) (by omega) (by omega) (tgt := 31) dX2_copiesOf_9 (by decide) (fun c_9 => ?_) (fun c_9 => ?_)
      · have ex : x2 = g_X2_copiesOf_4 σ x (nN σ + 1) 0 0 := ((br_p c_9 rfl) : x2 = g_X2_copiesOf_4 σ x (fu + 1) k x2).trans hg_4
        exact K_31 ls (by rw [← ex]; exact lv_sub hl [0, 1, 3] rfl)
      refine lv_aload_n hx hb dX2_copiesOf_12 rfl (lv_at hl 0 rfl) ?_
      refine sh_g10 hx hb hts hown hK hP dX2_copiesOf_13 ?_
      refine lv_iload_n hx hb dX2_copiesOf_16 rfl (lv_at hl 2 rfl) ?_
      refine sh_r10 hx hb hK hP (k) rfl (by omega) (v := σ 10 k) rfl dX2_copiesOf_17 ?_
      refine lv_iload_n hx hb dX2_copiesOf_18 rfl (lv_at hl 1 rfl) ?_
      refine lv_icmp_ne (tgt := 25) hx hb dX2_copiesOf_19 (by decide) (fun c_19 => ?_) (fun c_19 => ?_)
      · refine lv_iinc (v := nI (k + 1)) (lv' := [(3, .int (nI (k + 1))), (0, .ref (o)), (1, .int (x)), (2, .int (x2))]) hx hb dX2_copiesOf_25 hl (k := 2) rfl (nI_c1 _) (by decide) rfl (fun ls hl => ?_)
        refine lv_goto (tgt := 4) hx hb dX2_copiesOf_28 (by decide) ?_
        exact ih (k + 1) x2 (by omega) (by omega) (((br_n c_9 (br_n c_19 rfl)) : g_X2_copiesOf_4 σ x fu (k + 1) x2 = g_X2_copiesOf_4 σ x (fu + 1) k x2).trans hg_4) ls (lv_sub hl [1, 2, 0, 3] rfl)
      refine lv_iinc (v := x2 + 1) (lv' := [(2, .int (x2 + 1)), (0, .ref (o)), (1, .int (x)), (3, .int (nI k))]) hx hb dX2_copiesOf_22 hl (k := 3) rfl rfl (by decide) rfl (fun ls hl => ?_)
      refine lv_iinc (v := nI (k + 1)) (lv' := [(3, .int (nI (k + 1))), (2, .int (x2 + 1)), (0, .ref (o)), (1, .int (x))]) hx hb dX2_copiesOf_25 hl (k := 3) rfl (nI_c1 _) (by decide) rfl (fun ls hl => ?_)
      refine lv_goto (tgt := 4) hx hb dX2_copiesOf_28 (by decide) ?_
      exact ih (k + 1) (x2 + 1) (by omega) (by omega) (((br_n c_9 (br_p c_19 rfl)) : g_X2_copiesOf_4 σ x fu (k + 1) (x2 + 1) = g_X2_copiesOf_4 σ x (fu + 1) k x2).trans hg_4) ls (lv_sub hl [2, 3, 0, 1] rfl)
  exact L_4 (nN σ + 1) 0 0 (by omega) (by omega) rfl ls (lv_sub hl [2, 3, 0, 1] rfl)
theorem kV_X2_copiesOf {R : Room} {s : State} {args : Array Value} {own : String} {idx : Nat} {c0 : Cond} (hts : ∀ w ∈ c0 :: W0, w.before args s = true) (hl : Cond.methodLink own idx yX2_copiesOf ∈ W0) (hR : rm_X2_copiesOf.frames + 1 ≤ R.frames ∧ 8 + (4 + 11) + rm_X2_copiesOf.locals ≤ R.locals) : CallW R s args own RX2 idx yX2_copiesOf cX2_copiesOf 4 (some .int) (Cond.code yX2_copiesOf cX2_copiesOf 4 (some .int) :: W0) rm_X2_copiesOf 0 0 1 := cwV 1 hts (gdV hl mi_yX2_copiesOf ms_yX2_copiesOf mini_X2 mc_yX2_copiesOf) rfl rfl rfl (by decide +kernel) hR

/-! X2.copiesOfIn -/
def g_X2_copiesOfIn_5 (σ : Nat → Nat → Int32) (x : Int32) (y : Int32) : Nat → (Nat) → (Int32) → Int32
  | 0, k, x3 => x3
  | fu + 1, k, x3 => (if nN σ ≤ k then x3 else (if (σ 10 k) = x then (if (σ 13 k) = y then g_X2_copiesOfIn_5 σ x y fu (k + 1) (x3 + 1) else g_X2_copiesOfIn_5 σ x y fu (k + 1) x3) else g_X2_copiesOfIn_5 σ x y fu (k + 1) x3))
def f_X2_copiesOfIn (σ : Nat → Nat → Int32) (x : Int32) (y : Int32) : Int32 := (g_X2_copiesOfIn_5 σ x y (nN σ + 1) 0 0)
abbrev rm_X2_copiesOfIn : Room := { frames := 0, cells := 0, slots := 0, locals := 0 }
set_option maxRecDepth 100000 in
theorem c_X2_copiesOfIn (l : Launch) (D : va_G) (cI : ClassId) (o : Nat) (a : Nat → Nat) (σ : Nat → Nat → Int32) (x : Int32) (y : Int32) (hok : okS σ) :
    Met l yX2_copiesOfIn (Cond.code yX2_copiesOfIn cX2_copiesOfIn 5 (some .int) :: W0) rm_X2_copiesOfIn (va_Pc [.ref o, .int x, .int y] (shP D cI o a σ)) (vp_Si (fun r => r = f_X2_copiesOfIn σ x y)) 0 0 (fun _ => False) := by
  refine st_gen (cc := cX2_copiesOfIn) (maxL := 5) (ret := some .int) (own := RX2) (by decide) rfl (Nat.le_of_ble_eq_true rfl) ?_
  intro p e s m below meth c ls C hPre hl
  obtain ⟨hx, hb, hr, hml, hown, hts, hlk⟩ := C
  obtain ⟨hP, hK⟩ := hPre
  have hl : lv_has ls 5 [(0, .ref (o)), (1, .int (x)), (2, .int (y))] := hl
  obtain ⟨hT6, hC6, hN6⟩ := okS_b hok
  refine lv_iconst (v := 0) hx hb dX2_copiesOfIn_0 (by decide) ?_
  refine lv_istore_n (lv' := [(3, .int (0)), (0, .ref (o)), (1, .int (x)), (2, .int (y))]) hx hb dX2_copiesOfIn_1 rfl hl (by decide) rfl (fun ls hl => ?_)
  refine lv_iconst (v := 0) hx hb dX2_copiesOfIn_2 (by decide) ?_
  refine lv_istore (lv' := [(4, .int (0)), (3, .int (0)), (0, .ref (o)), (1, .int (x)), (2, .int (y))]) hx hb dX2_copiesOfIn_3 hl (by decide) rfl (fun ls hl => ?_)
  have K_45 : ∀ ls, lv_has ls 5 [(0, .ref (o)), (1, .int (x)), (2, .int (y)), (3, .int ((g_X2_copiesOfIn_5 σ x y (nN σ + 1) 0 0)))] → W p l e rm_X2_copiesOfIn s m (([.ref (o), .int (x), .int (y)] : List Value).toArray) below meth c s.heap [] 0 0 (MQ below (vp_Si (fun r => r = f_X2_copiesOfIn σ x y)) ([.ref (o), .int (x), .int (y)] : List Value).toArray s 0 0 (fun _ => False)) (F0 m 45 ls []) := by
    intro ls hl
    refine lv_iload_n hx hb dX2_copiesOfIn_45 rfl (lv_at hl 3 rfl) ?_
    exact fin_i hx hb hr hlk rfl dX2_copiesOfIn_46
  have L_5 : ∀ (fu : Nat) (k : Nat) (x3 : Int32), nN σ - k < fu → k ≤ nN σ → g_X2_copiesOfIn_5 σ x y fu k x3 = g_X2_copiesOfIn_5 σ x y (nN σ + 1) 0 0 → ∀ ls, lv_has ls 5 [(0, .ref (o)), (1, .int (x)), (2, .int (y)), (4, .int (nI k)), (3, .int (x3))] → W p l e rm_X2_copiesOfIn s m (([.ref (o), .int (x), .int (y)] : List Value).toArray) below meth c s.heap [] 0 0 (MQ below (vp_Si (fun r => r = f_X2_copiesOfIn σ x y)) ([.ref (o), .int (x), .int (y)] : List Value).toArray s 0 0 (fun _ => False)) (F0 m 5 ls []) := by
    intro fu
    induction fu with
    | zero => intro k x3 hm; exact absurd hm (Nat.not_lt_zero _)
    | succ fu ih =>
      intro k x3 hm hkN hg_5 ls hl
      refine lv_iload hx hb dX2_copiesOfIn_5 (lv_at hl 3 rfl) ?_
      refine lv_aload_n hx hb dX2_copiesOfIn_7 rfl (lv_at hl 0 rfl) ?_
      refine sh_g3 hx hb hts hown hK hP (v := σ 3 0) rfl dX2_copiesOfIn_8 ?_
      refine lv_icmp_geN (k) (nN σ) hx hb rfl (okS_3 (σ := σ) (by assumption)) (by omega) (by omega) (tgt := 45) dX2_copiesOfIn_11 (by decide) (fun c_11 => ?_) (fun c_11 => ?_)
      · have ex : x3 = g_X2_copiesOfIn_5 σ x y (nN σ + 1) 0 0 := ((br_p c_11 rfl) : x3 = g_X2_copiesOfIn_5 σ x y (fu + 1) k x3).trans hg_5
        exact K_45 ls (by rw [← ex]; exact lv_sub hl [0, 1, 2, 4] rfl)
      refine lv_aload_n hx hb dX2_copiesOfIn_14 rfl (lv_at hl 0 rfl) ?_
      refine sh_g10 hx hb hts hown hK hP dX2_copiesOfIn_15 ?_
      refine lv_iload hx hb dX2_copiesOfIn_18 (lv_at hl 3 rfl) ?_
      refine sh_r10 hx hb hK hP (k) rfl (by omega) (v := σ 10 k) rfl dX2_copiesOfIn_20 ?_
      refine lv_iload_n hx hb dX2_copiesOfIn_21 rfl (lv_at hl 1 rfl) ?_
      refine lv_icmp_ne (tgt := 39) hx hb dX2_copiesOfIn_22 (by decide) (fun c_22 => ?_) (fun c_22 => ?_)
      · refine lv_iinc (v := nI (k + 1)) (lv' := [(4, .int (nI (k + 1))), (0, .ref (o)), (1, .int (x)), (2, .int (y)), (3, .int (x3))]) hx hb dX2_copiesOfIn_39 hl (k := 3) rfl (nI_c1 _) (by decide) rfl (fun ls hl => ?_)
        refine lv_goto (tgt := 5) hx hb dX2_copiesOfIn_42 (by decide) ?_
        exact ih (k + 1) x3 (by omega) (by omega) (((br_n c_11 (br_n c_22 rfl)) : g_X2_copiesOfIn_5 σ x y fu (k + 1) x3 = g_X2_copiesOfIn_5 σ x y (fu + 1) k x3).trans hg_5) ls (lv_sub hl [1, 2, 3, 0, 4] rfl)
      refine lv_aload_n hx hb dX2_copiesOfIn_25 rfl (lv_at hl 0 rfl) ?_
      refine sh_g13 hx hb hts hown hK hP dX2_copiesOfIn_26 ?_
      refine lv_iload hx hb dX2_copiesOfIn_29 (lv_at hl 3 rfl) ?_
      refine sh_r13 hx hb hK hP (k) rfl (by omega) (v := σ 13 k) rfl dX2_copiesOfIn_31 ?_
      refine lv_iload_n hx hb dX2_copiesOfIn_32 rfl (lv_at hl 2 rfl) ?_
      refine lv_icmp_ne (tgt := 39) hx hb dX2_copiesOfIn_33 (by decide) (fun c_33 => ?_) (fun c_33 => ?_)
      · refine lv_iinc (v := nI (k + 1)) (lv' := [(4, .int (nI (k + 1))), (0, .ref (o)), (1, .int (x)), (2, .int (y)), (3, .int (x3))]) hx hb dX2_copiesOfIn_39 hl (k := 3) rfl (nI_c1 _) (by decide) rfl (fun ls hl => ?_)
        refine lv_goto (tgt := 5) hx hb dX2_copiesOfIn_42 (by decide) ?_
        exact ih (k + 1) x3 (by omega) (by omega) (((br_n c_11 (br_p c_22 (br_n c_33 rfl))) : g_X2_copiesOfIn_5 σ x y fu (k + 1) x3 = g_X2_copiesOfIn_5 σ x y (fu + 1) k x3).trans hg_5) ls (lv_sub hl [1, 2, 3, 0, 4] rfl)
      refine lv_iinc (v := x3 + 1) (lv' := [(3, .int (x3 + 1)), (0, .ref (o)), (1, .int (x)), (2, .int (y)), (4, .int (nI k))]) hx hb dX2_copiesOfIn_36 hl (k := 4) rfl rfl (by decide) rfl (fun ls hl => ?_)
      refine lv_iinc (v := nI (k + 1)) (lv' := [(4, .int (nI (k + 1))), (3, .int (x3 + 1)), (0, .ref (o)), (1, .int (x)), (2, .int (y))]) hx hb dX2_copiesOfIn_39 hl (k := 4) rfl (nI_c1 _) (by decide) rfl (fun ls hl => ?_)
      refine lv_goto (tgt := 5) hx hb dX2_copiesOfIn_42 (by decide) ?_
      exact ih (k + 1) (x3 + 1) (by omega) (by omega) (((br_n c_11 (br_p c_22 (br_p c_33 rfl))) : g_X2_copiesOfIn_5 σ x y fu (k + 1) (x3 + 1) = g_X2_copiesOfIn_5 σ x y (fu + 1) k x3).trans hg_5) ls (lv_sub hl [2, 3, 4, 0, 1] rfl)
  exact L_5 (nN σ + 1) 0 0 (by omega) (by omega) rfl ls (lv_sub hl [2, 3, 4, 0, 1] rfl)
theorem kV_X2_copiesOfIn {R : Room} {s : State} {args : Array Value} {own : String} {idx : Nat} {c0 : Cond} (hts : ∀ w ∈ c0 :: W0, w.before args s = true) (hl : Cond.methodLink own idx yX2_copiesOfIn ∈ W0) (hR : rm_X2_copiesOfIn.frames + 1 ≤ R.frames ∧ 8 + (5 + 11) + rm_X2_copiesOfIn.locals ≤ R.locals) : CallW R s args own RX2 idx yX2_copiesOfIn cX2_copiesOfIn 5 (some .int) (Cond.code yX2_copiesOfIn cX2_copiesOfIn 5 (some .int) :: W0) rm_X2_copiesOfIn 0 0 2 := cwV 2 hts (gdV hl mi_yX2_copiesOfIn ms_yX2_copiesOfIn mini_X2 mc_yX2_copiesOfIn) rfl rfl rfl (by decide +kernel) hR

/-! X2.suits -/
def f_X2_suits (σ : Nat → Nat → Int32) (k : Nat) (jc : Nat) : Int32 := (f_X2_takes σ jc (σ 10 k) (σ 11 k))
abbrev rm_X2_suits : Room := { frames := 1, cells := 0, slots := 0, locals := 23 }
set_option maxRecDepth 100000 in
theorem c_X2_suits (l : Launch) (D : va_G) (cI : ClassId) (o : Nat) (a : Nat → Nat) (σ : Nat → Nat → Int32) (x : Int32) (k : Nat) (hx : x = nI k) (y : Int32) (jc : Nat) (hy : y = nI jc) (hok : okS σ) (hk : k < nN σ) (hjc : jc < nC σ) :
    Met l yX2_suits (Cond.code yX2_suits cX2_suits 3 (some .boolean) :: W0) rm_X2_suits (va_Pc [.ref o, .int x, .int y] (shP D cI o a σ)) (vp_Si (fun r => r = f_X2_suits σ k jc)) 0 0 (fun _ => False) := by
  subst hx
  subst hy
  refine st_gen (cc := cX2_suits) (maxL := 3) (ret := some .boolean) (own := RX2) (by decide) rfl (Nat.le_of_ble_eq_true rfl) ?_
  intro p e s m below meth c ls C hPre hl
  obtain ⟨hx, hb, hr, hml, hown, hts, hlk⟩ := C
  obtain ⟨hP, hK⟩ := hPre
  have hl : lv_has ls 3 [(0, .ref (o)), (1, .int (nI k)), (2, .int (nI jc))] := hl
  obtain ⟨hT6, hC6, hN6⟩ := okS_b hok
  refine lv_aload_n hx hb dX2_suits_0 rfl (lv_at hl 0 rfl) ?_
  refine lv_iload_n hx hb dX2_suits_1 rfl (lv_at hl 2 rfl) ?_
  refine lv_aload_n hx hb dX2_suits_2 rfl (lv_at hl 0 rfl) ?_
  refine sh_g10 hx hb hts hown hK hP dX2_suits_3 ?_
  refine lv_iload_n hx hb dX2_suits_6 rfl (lv_at hl 1 rfl) ?_
  refine sh_r10 hx hb hK hP (k) rfl (by omega) (v := σ 10 k) rfl dX2_suits_7 ?_
  refine lv_aload_n hx hb dX2_suits_8 rfl (lv_at hl 0 rfl) ?_
  refine sh_g11 hx hb hts hown hK hP dX2_suits_9 ?_
  refine lv_iload_n hx hb dX2_suits_12 rfl (lv_at hl 1 rfl) ?_
  refine sh_r11 hx hb hK hP (k) rfl (by omega) (v := σ 11 k) rfl dX2_suits_13 ?_
  refine sh_call (rest := []) hx hb hml hown hts hK hP (c_X2_takes l D cI o a σ (nI jc) jc rfl (σ 10 k) (σ 11 k) (by assumption) (by first | assumption | omega)) (kV_X2_takes hts ml_X2_222 ⟨(Nat.le_of_ble_eq_true rfl), (Nat.le_of_ble_eq_true rfl)⟩) rfl hl.1 rfl (Nat.le_of_ble_eq_true rfl) dX2_suits_14 (Nat.zero_le _) (Nat.zero_le _) ?_
  exact fin_z hx hb hr hlk (z_X2_takes ..) rfl dX2_suits_17
theorem kV_X2_suits {R : Room} {s : State} {args : Array Value} {own : String} {idx : Nat} {c0 : Cond} (hts : ∀ w ∈ c0 :: W0, w.before args s = true) (hl : Cond.methodLink own idx yX2_suits ∈ W0) (hR : rm_X2_suits.frames + 1 ≤ R.frames ∧ 8 + (3 + 11) + rm_X2_suits.locals ≤ R.locals) : CallW R s args own RX2 idx yX2_suits cX2_suits 3 (some .boolean) (Cond.code yX2_suits cX2_suits 3 (some .boolean) :: W0) rm_X2_suits 0 0 2 := cwV 2 hts (gdV hl mi_yX2_suits ms_yX2_suits mini_X2 mc_yX2_suits) rfl rfl rfl (by decide +kernel) hR

theorem z_X2_suits {σ : Nat → Nat → Int32} {k : Nat} {jc : Nat} : f_X2_suits σ k jc = 0 ∨ f_X2_suits σ k jc = 1 := by
  unfold f_X2_suits
  (repeat' split) <;> first | exact Or.inl rfl | exact Or.inr rfl | exact z_X2_takes

/-! X2.stockFor -/
def g_X2_stockFor_4 (σ : Nat → Nat → Int32) (jc : Nat) : Nat → (Nat) → (Int32) → Int32
  | 0, k, x2 => x2
  | fu + 1, k, x2 => (if nN σ ≤ k then x2 else (if (σ 13 k) = 0 then (if (f_X2_suits σ k jc) = 0 then g_X2_stockFor_4 σ jc fu (k + 1) x2 else g_X2_stockFor_4 σ jc fu (k + 1) (x2 + 1)) else g_X2_stockFor_4 σ jc fu (k + 1) x2))
def f_X2_stockFor (σ : Nat → Nat → Int32) (jc : Nat) : Int32 := (g_X2_stockFor_4 σ jc (nN σ + 1) 0 0)
abbrev rm_X2_stockFor : Room := { frames := 2, cells := 0, slots := 0, locals := 45 }
set_option maxRecDepth 100000 in
theorem c_X2_stockFor (l : Launch) (D : va_G) (cI : ClassId) (o : Nat) (a : Nat → Nat) (σ : Nat → Nat → Int32) (y : Int32) (jc : Nat) (hy : y = nI jc) (hok : okS σ) (hjc : jc < nC σ) :
    Met l yX2_stockFor (Cond.code yX2_stockFor cX2_stockFor 4 (some .int) :: W0) rm_X2_stockFor (va_Pc [.ref o, .int y] (shP D cI o a σ)) (vp_Si (fun r => r = f_X2_stockFor σ jc)) 0 0 (fun _ => False) := by
  subst hy
  refine st_gen (cc := cX2_stockFor) (maxL := 4) (ret := some .int) (own := RX2) (by decide) rfl (Nat.le_of_ble_eq_true rfl) ?_
  intro p e s m below meth c ls C hPre hl
  obtain ⟨hx, hb, hr, hml, hown, hts, hlk⟩ := C
  obtain ⟨hP, hK⟩ := hPre
  have hl : lv_has ls 4 [(0, .ref (o)), (1, .int (nI jc))] := hl
  obtain ⟨hT6, hC6, hN6⟩ := okS_b hok
  refine lv_iconst (v := 0) hx hb dX2_stockFor_0 (by decide) ?_
  refine lv_istore_n (lv' := [(2, .int (0)), (0, .ref (o)), (1, .int (nI jc))]) hx hb dX2_stockFor_1 rfl hl (by decide) rfl (fun ls hl => ?_)
  refine lv_iconst (v := 0) hx hb dX2_stockFor_2 (by decide) ?_
  refine lv_istore_n (lv' := [(3, .int (0)), (2, .int (0)), (0, .ref (o)), (1, .int (nI jc))]) hx hb dX2_stockFor_3 rfl hl (by decide) rfl (fun ls hl => ?_)
  have K_39 : ∀ ls, lv_has ls 4 [(0, .ref (o)), (1, .int (nI jc)), (2, .int ((g_X2_stockFor_4 σ jc (nN σ + 1) 0 0)))] → W p l e rm_X2_stockFor s m (([.ref (o), .int (nI jc)] : List Value).toArray) below meth c s.heap [] 0 0 (MQ below (vp_Si (fun r => r = f_X2_stockFor σ jc)) ([.ref (o), .int (nI jc)] : List Value).toArray s 0 0 (fun _ => False)) (F0 m 39 ls []) := by
    intro ls hl
    refine lv_iload_n hx hb dX2_stockFor_39 rfl (lv_at hl 2 rfl) ?_
    exact fin_i hx hb hr hlk rfl dX2_stockFor_40
  have L_4 : ∀ (fu : Nat) (k : Nat) (x2 : Int32), nN σ - k < fu → k ≤ nN σ → g_X2_stockFor_4 σ jc fu k x2 = g_X2_stockFor_4 σ jc (nN σ + 1) 0 0 → ∀ ls, lv_has ls 4 [(0, .ref (o)), (1, .int (nI jc)), (3, .int (nI k)), (2, .int (x2))] → W p l e rm_X2_stockFor s m (([.ref (o), .int (nI jc)] : List Value).toArray) below meth c s.heap [] 0 0 (MQ below (vp_Si (fun r => r = f_X2_stockFor σ jc)) ([.ref (o), .int (nI jc)] : List Value).toArray s 0 0 (fun _ => False)) (F0 m 4 ls []) := by
    intro fu
    induction fu with
    | zero => intro k x2 hm; exact absurd hm (Nat.not_lt_zero _)
    | succ fu ih =>
      intro k x2 hm hkN hg_4 ls hl
      refine lv_iload_n hx hb dX2_stockFor_4 rfl (lv_at hl 2 rfl) ?_
      refine lv_aload_n hx hb dX2_stockFor_5 rfl (lv_at hl 0 rfl) ?_
      refine sh_g3 hx hb hts hown hK hP (v := σ 3 0) rfl dX2_stockFor_6 ?_
      refine lv_icmp_geN (k) (nN σ) hx hb rfl (okS_3 (σ := σ) (by assumption)) (by omega) (by omega) (tgt := 39) dX2_stockFor_9 (by decide) (fun c_9 => ?_) (fun c_9 => ?_)
      · have ex : x2 = g_X2_stockFor_4 σ jc (nN σ + 1) 0 0 := ((br_p c_9 rfl) : x2 = g_X2_stockFor_4 σ jc (fu + 1) k x2).trans hg_4
        exact K_39 ls (by rw [← ex]; exact lv_sub hl [0, 1, 3] rfl)
      refine lv_aload_n hx hb dX2_stockFor_12 rfl (lv_at hl 0 rfl) ?_
      refine sh_g13 hx hb hts hown hK hP dX2_stockFor_13 ?_
      refine lv_iload_n hx hb dX2_stockFor_16 rfl (lv_at hl 2 rfl) ?_
      refine sh_r13 hx hb hK hP (k) rfl (by omega) (v := σ 13 k) rfl dX2_stockFor_17 ?_
      refine lv_if_ne (tgt := 33) hx hb dX2_stockFor_18 (by decide) (fun c_18 => ?_) (fun c_18 => ?_)
      · refine lv_iinc (v := nI (k + 1)) (lv' := [(3, .int (nI (k + 1))), (0, .ref (o)), (1, .int (nI jc)), (2, .int (x2))]) hx hb dX2_stockFor_33 hl (k := 2) rfl (nI_c1 _) (by decide) rfl (fun ls hl => ?_)
        refine lv_goto (tgt := 4) hx hb dX2_stockFor_36 (by decide) ?_
        exact ih (k + 1) x2 (by omega) (by omega) (((br_n c_9 (br_n c_18 rfl)) : g_X2_stockFor_4 σ jc fu (k + 1) x2 = g_X2_stockFor_4 σ jc (fu + 1) k x2).trans hg_4) ls (lv_sub hl [1, 2, 0, 3] rfl)
      refine lv_aload_n hx hb dX2_stockFor_21 rfl (lv_at hl 0 rfl) ?_
      refine lv_iload_n hx hb dX2_stockFor_22 rfl (lv_at hl 2 rfl) ?_
      refine lv_iload_n hx hb dX2_stockFor_23 rfl (lv_at hl 1 rfl) ?_
      refine sh_call (rest := []) hx hb hml hown hts hK hP (c_X2_suits l D cI o a σ (nI k) k rfl (nI jc) jc rfl (by assumption) (by first | assumption | omega) (by first | assumption | omega)) (kV_X2_suits hts ml_X2_191 ⟨(Nat.le_of_ble_eq_true rfl), (Nat.le_of_ble_eq_true rfl)⟩) rfl hl.1 rfl (Nat.le_of_ble_eq_true rfl) dX2_stockFor_24 (Nat.zero_le _) (Nat.zero_le _) ?_
      refine lv_if_eq (tgt := 33) hx hb dX2_stockFor_27 (by decide) (fun c_27 => ?_) (fun c_27 => ?_)
      · refine lv_iinc (v := nI (k + 1)) (lv' := [(3, .int (nI (k + 1))), (0, .ref (o)), (1, .int (nI jc)), (2, .int (x2))]) hx hb dX2_stockFor_33 hl (k := 2) rfl (nI_c1 _) (by decide) rfl (fun ls hl => ?_)
        refine lv_goto (tgt := 4) hx hb dX2_stockFor_36 (by decide) ?_
        exact ih (k + 1) x2 (by omega) (by omega) (((br_n c_9 (br_p c_18 (br_p c_27 rfl))) : g_X2_stockFor_4 σ jc fu (k + 1) x2 = g_X2_stockFor_4 σ jc (fu + 1) k x2).trans hg_4) ls (lv_sub hl [1, 2, 0, 3] rfl)
      refine lv_iinc (v := x2 + 1) (lv' := [(2, .int (x2 + 1)), (0, .ref (o)), (1, .int (nI jc)), (3, .int (nI k))]) hx hb dX2_stockFor_30 hl (k := 3) rfl rfl (by decide) rfl (fun ls hl => ?_)
      refine lv_iinc (v := nI (k + 1)) (lv' := [(3, .int (nI (k + 1))), (2, .int (x2 + 1)), (0, .ref (o)), (1, .int (nI jc))]) hx hb dX2_stockFor_33 hl (k := 3) rfl (nI_c1 _) (by decide) rfl (fun ls hl => ?_)
      refine lv_goto (tgt := 4) hx hb dX2_stockFor_36 (by decide) ?_
      exact ih (k + 1) (x2 + 1) (by omega) (by omega) (((br_n c_9 (br_p c_18 (br_n c_27 rfl))) : g_X2_stockFor_4 σ jc fu (k + 1) (x2 + 1) = g_X2_stockFor_4 σ jc (fu + 1) k x2).trans hg_4) ls (lv_sub hl [2, 3, 0, 1] rfl)
  exact L_4 (nN σ + 1) 0 0 (by omega) (by omega) rfl ls (lv_sub hl [2, 3, 0, 1] rfl)
theorem kV_X2_stockFor {R : Room} {s : State} {args : Array Value} {own : String} {idx : Nat} {c0 : Cond} (hts : ∀ w ∈ c0 :: W0, w.before args s = true) (hl : Cond.methodLink own idx yX2_stockFor ∈ W0) (hR : rm_X2_stockFor.frames + 1 ≤ R.frames ∧ 8 + (4 + 11) + rm_X2_stockFor.locals ≤ R.locals) : CallW R s args own RX2 idx yX2_stockFor cX2_stockFor 4 (some .int) (Cond.code yX2_stockFor cX2_stockFor 4 (some .int) :: W0) rm_X2_stockFor 0 0 1 := cwV 1 hts (gdV hl mi_yX2_stockFor ms_yX2_stockFor mini_X2 mc_yX2_stockFor) rfl rfl rfl (by decide +kernel) hR

/-! X2.isOfUse -/
def g_X2_isOfUse_2 (σ : Nat → Nat → Int32) (x : Int32) (y : Int32) : Nat → (Nat) → Int32
  | 0, k => 0
  | fu + 1, k => (if nC σ ≤ k then 0 else (if (f_X2_takes σ k x y) = 0 then g_X2_isOfUse_2 σ x y fu (k + 1) else 1))
def f_X2_isOfUse (σ : Nat → Nat → Int32) (x : Int32) (y : Int32) : Int32 := g_X2_isOfUse_2 σ x y (nC σ + 1) 0
abbrev rm_X2_isOfUse : Room := { frames := 1, cells := 0, slots := 0, locals := 23 }
set_option maxRecDepth 100000 in
theorem c_X2_isOfUse (l : Launch) (D : va_G) (cI : ClassId) (o : Nat) (a : Nat → Nat) (σ : Nat → Nat → Int32) (x : Int32) (y : Int32) (hok : okS σ) :
    Met l yX2_isOfUse (Cond.code yX2_isOfUse cX2_isOfUse 4 (some .boolean) :: W0) rm_X2_isOfUse (va_Pc [.ref o, .int x, .int y] (shP D cI o a σ)) (vp_Si (fun r => r = f_X2_isOfUse σ x y)) 0 0 (fun _ => False) := by
  refine st_gen (cc := cX2_isOfUse) (maxL := 4) (ret := some .boolean) (own := RX2) (by decide) rfl (Nat.le_of_ble_eq_true rfl) ?_
  intro p e s m below meth c ls C hPre hl
  obtain ⟨hx, hb, hr, hml, hown, hts, hlk⟩ := C
  obtain ⟨hP, hK⟩ := hPre
  have hl : lv_has ls 4 [(0, .ref (o)), (1, .int (x)), (2, .int (y))] := hl
  obtain ⟨hT6, hC6, hN6⟩ := okS_b hok
  refine lv_iconst (v := 0) hx hb dX2_isOfUse_0 (by decide) ?_
  refine lv_istore_n (lv' := [(3, .int (0)), (0, .ref (o)), (1, .int (x)), (2, .int (y))]) hx hb dX2_isOfUse_1 rfl hl (by decide) rfl (fun ls hl => ?_)
  have ho_2 : g_X2_isOfUse_2 σ x y (nC σ + 1) 0 = f_X2_isOfUse σ x y := rfl
  have L_2 : ∀ (fu : Nat) (k : Nat), nC σ - k < fu → k ≤ nC σ → g_X2_isOfUse_2 σ x y fu k = g_X2_isOfUse_2 σ x y (nC σ + 1) 0 → ∀ ls, lv_has ls 4 [(0, .ref (o)), (1, .int (x)), (2, .int (y)), (3, .int (nI k))] → W p l e rm_X2_isOfUse s m (([.ref (o), .int (x), .int (y)] : List Value).toArray) below meth c s.heap [] 0 0 (MQ below (vp_Si (fun r => r = f_X2_isOfUse σ x y)) ([.ref (o), .int (x), .int (y)] : List Value).toArray s 0 0 (fun _ => False)) (F0 m 2 ls []) := by
    intro fu
    induction fu with
    | zero => intro k hm; exact absurd hm (Nat.not_lt_zero _)
    | succ fu ih =>
      intro k hm hkN hg_2 ls hl
      refine lv_iload_n hx hb dX2_isOfUse_2 rfl (lv_at hl 3 rfl) ?_
      refine lv_aload_n hx hb dX2_isOfUse_3 rfl (lv_at hl 0 rfl) ?_
      refine sh_g2 hx hb hts hown hK hP (v := σ 2 0) rfl dX2_isOfUse_4 ?_
      refine lv_icmp_geN (k) (nC σ) hx hb rfl (okS_2 (σ := σ) (by assumption)) (by omega) (by omega) (tgt := 28) dX2_isOfUse_7 (by decide) (fun c_7 => ?_) (fun c_7 => ?_)
      · refine lv_iconst (v := 0) hx hb dX2_isOfUse_28 (by decide) ?_
        exact fin_z hx hb hr hlk (Or.inl rfl) (((br_p c_7 rfl) : _ = g_X2_isOfUse_2 σ x y (fu + 1) k).trans (hg_2.trans ho_2)) dX2_isOfUse_29
      refine lv_aload_n hx hb dX2_isOfUse_10 rfl (lv_at hl 0 rfl) ?_
      refine lv_iload_n hx hb dX2_isOfUse_11 rfl (lv_at hl 3 rfl) ?_
      refine lv_iload_n hx hb dX2_isOfUse_12 rfl (lv_at hl 1 rfl) ?_
      refine lv_iload_n hx hb dX2_isOfUse_13 rfl (lv_at hl 2 rfl) ?_
      refine sh_call (rest := []) hx hb hml hown hts hK hP (c_X2_takes l D cI o a σ (nI k) k rfl x y (by assumption) (by first | assumption | omega)) (kV_X2_takes hts ml_X2_222 ⟨(Nat.le_of_ble_eq_true rfl), (Nat.le_of_ble_eq_true rfl)⟩) rfl hl.1 rfl (Nat.le_of_ble_eq_true rfl) dX2_isOfUse_14 (Nat.zero_le _) (Nat.zero_le _) ?_
      refine lv_if_eq (tgt := 22) hx hb dX2_isOfUse_17 (by decide) (fun c_17 => ?_) (fun c_17 => ?_)
      · refine lv_iinc (v := nI (k + 1)) (lv' := [(3, .int (nI (k + 1))), (0, .ref (o)), (1, .int (x)), (2, .int (y))]) hx hb dX2_isOfUse_22 hl (k := 3) rfl (nI_c1 _) (by decide) rfl (fun ls hl => ?_)
        refine lv_goto (tgt := 2) hx hb dX2_isOfUse_25 (by decide) ?_
        exact ih (k + 1) (by omega) (by omega) (((br_n c_7 (br_p c_17 rfl)) : g_X2_isOfUse_2 σ x y fu (k + 1) = g_X2_isOfUse_2 σ x y (fu + 1) k).trans hg_2) ls (lv_sub hl [1, 2, 3, 0] rfl)
      refine lv_iconst (v := 1) hx hb dX2_isOfUse_20 (by decide) ?_
      exact fin_z hx hb hr hlk (Or.inr rfl) (((br_n c_7 (br_n c_17 rfl)) : _ = g_X2_isOfUse_2 σ x y (fu + 1) k).trans (hg_2.trans ho_2)) dX2_isOfUse_21
  exact L_2 (nC σ + 1) 0 (by omega) (by omega) rfl ls (lv_sub hl [1, 2, 3, 0] rfl)
theorem kV_X2_isOfUse {R : Room} {s : State} {args : Array Value} {own : String} {idx : Nat} {c0 : Cond} (hts : ∀ w ∈ c0 :: W0, w.before args s = true) (hl : Cond.methodLink own idx yX2_isOfUse ∈ W0) (hR : rm_X2_isOfUse.frames + 1 ≤ R.frames ∧ 8 + (4 + 11) + rm_X2_isOfUse.locals ≤ R.locals) : CallW R s args own RX2 idx yX2_isOfUse cX2_isOfUse 4 (some .boolean) (Cond.code yX2_isOfUse cX2_isOfUse 4 (some .boolean) :: W0) rm_X2_isOfUse 0 0 2 := cwV 2 hts (gdV hl mi_yX2_isOfUse ms_yX2_isOfUse mini_X2 mc_yX2_isOfUse) rfl rfl rfl (by decide +kernel) hR

theorem z_g_X2_isOfUse_2 {σ : Nat → Nat → Int32} {x : Int32} {y : Int32} : ∀ (fu : Nat) (k : Nat), g_X2_isOfUse_2 σ x y fu k = 0 ∨ g_X2_isOfUse_2 σ x y fu k = 1 := by
  intro fu
  induction fu with
  | zero => intros; exact Or.inl rfl
  | succ fu ih =>
    intros
    rw [g_X2_isOfUse_2]
    (repeat' split) <;> first | exact Or.inl rfl | exact Or.inr rfl | exact ih .. | exact z_X2_takes

theorem z_X2_isOfUse {σ : Nat → Nat → Int32} {x : Int32} {y : Int32} : f_X2_isOfUse σ x y = 0 ∨ f_X2_isOfUse σ x y = 1 := by
  unfold f_X2_isOfUse
  (repeat' split) <;> first | exact Or.inl rfl | exact Or.inr rfl | exact z_X2_takes | exact z_g_X2_isOfUse_2 ..

/-! X2.supplyOf -/
def g_X2_supplyOf_4 (σ : Nat → Nat → Int32) (x : Int32) : Nat → (Nat) → (Int32) → Int32
  | 0, k, x2 => x2
  | fu + 1, k, x2 => (if nN σ ≤ k then x2 else (if (σ 13 k) = 0 then (if (σ 10 k) = x then (if (f_X2_isOfUse σ x (σ 11 k)) = 0 then g_X2_supplyOf_4 σ x fu (k + 1) x2 else g_X2_supplyOf_4 σ x fu (k + 1) (x2 + 1)) else g_X2_supplyOf_4 σ x fu (k + 1) x2) else (if (σ 13 k) = 1 then (if (σ 10 k) = x then (if (f_X2_isOfUse σ x (σ 11 k)) = 0 then g_X2_supplyOf_4 σ x fu (k + 1) x2 else g_X2_supplyOf_4 σ x fu (k + 1) (x2 + 1)) else g_X2_supplyOf_4 σ x fu (k + 1) x2) else (if (σ 10 k) = x then g_X2_supplyOf_4 σ x fu (k + 1) x2 else g_X2_supplyOf_4 σ x fu (k + 1) x2))))
def f_X2_supplyOf (σ : Nat → Nat → Int32) (x : Int32) : Int32 := (g_X2_supplyOf_4 σ x (nN σ + 1) 0 0)
abbrev rm_X2_supplyOf : Room := { frames := 2, cells := 0, slots := 0, locals := 46 }
set_option maxRecDepth 100000 in
theorem c_X2_supplyOf (l : Launch) (D : va_G) (cI : ClassId) (o : Nat) (a : Nat → Nat) (σ : Nat → Nat → Int32) (x : Int32) (hok : okS σ) :
    Met l yX2_supplyOf (Cond.code yX2_supplyOf cX2_supplyOf 5 (some .int) :: W0) rm_X2_supplyOf (va_Pc [.ref o, .int x] (shP D cI o a σ)) (vp_Si (fun r => r = f_X2_supplyOf σ x)) 0 0 (fun _ => False) := by
  refine st_gen (cc := cX2_supplyOf) (maxL := 5) (ret := some .int) (own := RX2) (by decide) rfl (Nat.le_of_ble_eq_true rfl) ?_
  intro p e s m below meth c ls C hPre hl
  obtain ⟨hx, hb, hr, hml, hown, hts, hlk⟩ := C
  obtain ⟨hP, hK⟩ := hPre
  have hl : lv_has ls 5 [(0, .ref (o)), (1, .int (x))] := hl
  obtain ⟨hT6, hC6, hN6⟩ := okS_b hok
  refine lv_iconst (v := 0) hx hb dX2_supplyOf_0 (by decide) ?_
  refine lv_istore_n (lv' := [(2, .int (0)), (0, .ref (o)), (1, .int (x))]) hx hb dX2_supplyOf_1 rfl hl (by decide) rfl (fun ls hl => ?_)
  refine lv_iconst (v := 0) hx hb dX2_supplyOf_2 (by decide) ?_
  refine lv_istore_n (lv' := [(3, .int (0)), (2, .int (0)), (0, .ref (o)), (1, .int (x))]) hx hb dX2_supplyOf_3 rfl hl (by decide) rfl (fun ls hl => ?_)
  have K_76 : ∀ ls, lv_has ls 5 [(0, .ref (o)), (1, .int (x)), (2, .int ((g_X2_supplyOf_4 σ x (nN σ + 1) 0 0)))] → W p l e rm_X2_supplyOf s m (([.ref (o), .int (x)] : List Value).toArray) below meth c s.heap [] 0 0 (MQ below (vp_Si (fun r => r = f_X2_supplyOf σ x)) ([.ref (o), .int (x)] : List Value).toArray s 0 0 (fun _ => False)) (F0 m 76 ls []) := by
    intro ls hl
    refine lv_iload_n hx hb dX2_supplyOf_76 rfl (lv_at hl 2 rfl) ?_
    exact fin_i hx hb hr hlk rfl dX2_supplyOf_77
  have L_4 : ∀ (fu : Nat) (k : Nat) (x2 : Int32), nN σ - k < fu → k ≤ nN σ → g_X2_supplyOf_4 σ x fu k x2 = g_X2_supplyOf_4 σ x (nN σ + 1) 0 0 → ∀ ls, lv_has ls 5 [(0, .ref (o)), (1, .int (x)), (3, .int (nI k)), (2, .int (x2))] → W p l e rm_X2_supplyOf s m (([.ref (o), .int (x)] : List Value).toArray) below meth c s.heap [] 0 0 (MQ below (vp_Si (fun r => r = f_X2_supplyOf σ x)) ([.ref (o), .int (x)] : List Value).toArray s 0 0 (fun _ => False)) (F0 m 4 ls []) := by
    intro fu
    induction fu with
    | zero => intro k x2 hm; exact absurd hm (Nat.not_lt_zero _)
    | succ fu ih =>
      intro k x2 hm hkN hg_4 ls hl
      refine lv_iload_n hx hb dX2_supplyOf_4 rfl (lv_at hl 2 rfl) ?_
      refine lv_aload_n hx hb dX2_supplyOf_5 rfl (lv_at hl 0 rfl) ?_
      refine sh_g3 hx hb hts hown hK hP (v := σ 3 0) rfl dX2_supplyOf_6 ?_
      refine lv_icmp_geN (k) (nN σ) hx hb rfl (okS_3 (σ := σ) (by assumption)) (by omega) (by omega) (tgt := 76) dX2_supplyOf_9 (by decide) (fun c_9 => ?_) (fun c_9 => ?_)
      · have ex : x2 = g_X2_supplyOf_4 σ x (nN σ + 1) 0 0 := ((br_p c_9 rfl) : x2 = g_X2_supplyOf_4 σ x (fu + 1) k x2).trans hg_4
        exact K_76 ls (by rw [← ex]; exact lv_sub hl [0, 1, 3] rfl)
      refine lv_aload_n hx hb dX2_supplyOf_12 rfl (lv_at hl 0 rfl) ?_
      refine sh_g13 hx hb hts hown hK hP dX2_supplyOf_13 ?_
      refine lv_iload_n hx hb dX2_supplyOf_16 rfl (lv_at hl 2 rfl) ?_
      refine sh_r13 hx hb hK hP (k) rfl (by omega) (v := σ 13 k) rfl dX2_supplyOf_17 ?_
      refine lv_if_eq (tgt := 31) hx hb dX2_supplyOf_18 (by decide) (fun c_18 => ?_) (fun c_18 => ?_)
      · refine lv_iconst (v := 1) hx hb dX2_supplyOf_31 (by decide) ?_
        refine lv_goto (tgt := 36) hx hb dX2_supplyOf_32 (by decide) ?_
        refine lv_istore (lv' := [(4, .int (1)), (0, .ref (o)), (1, .int (x)), (3, .int (nI k)), (2, .int (x2))]) hx hb dX2_supplyOf_36 hl (by decide) rfl (fun ls hl => ?_)
        refine lv_aload_n hx hb dX2_supplyOf_38 rfl (lv_at hl 1 rfl) ?_
        refine sh_g10 hx hb hts hown hK hP dX2_supplyOf_39 ?_
        refine lv_iload_n hx hb dX2_supplyOf_42 rfl (lv_at hl 3 rfl) ?_
        refine sh_r10 hx hb hK hP (k) rfl (by omega) (v := σ 10 k) rfl dX2_supplyOf_43 ?_
        refine lv_iload_n hx hb dX2_supplyOf_44 rfl (lv_at hl 2 rfl) ?_
        refine lv_icmp_ne (tgt := 70) hx hb dX2_supplyOf_45 (by decide) (fun c_45 => ?_) (fun c_45 => ?_)
        · refine lv_iinc (v := nI (k + 1)) (lv' := [(3, .int (nI (k + 1))), (4, .int (1)), (0, .ref (o)), (1, .int (x)), (2, .int (x2))]) hx hb dX2_supplyOf_70 hl (k := 3) rfl (nI_c1 _) (by decide) rfl (fun ls hl => ?_)
          refine lv_goto (tgt := 4) hx hb dX2_supplyOf_73 (by decide) ?_
          exact ih (k + 1) x2 (by omega) (by omega) (((br_n c_9 (br_p c_18 (br_n c_45 rfl))) : g_X2_supplyOf_4 σ x fu (k + 1) x2 = g_X2_supplyOf_4 σ x (fu + 1) k x2).trans hg_4) ls (lv_sub hl [2, 3, 0, 4] rfl)
        refine lv_iload hx hb dX2_supplyOf_48 (lv_at hl 0 rfl) ?_
        refine lv_if_eq (tgt := 70) hx hb dX2_supplyOf_50 (by decide) (fun q => absurd q (by decide)) (fun _ => ?_)
        refine lv_aload_n hx hb dX2_supplyOf_53 rfl (lv_at hl 1 rfl) ?_
        refine lv_iload_n hx hb dX2_supplyOf_54 rfl (lv_at hl 2 rfl) ?_
        refine lv_aload_n hx hb dX2_supplyOf_55 rfl (lv_at hl 1 rfl) ?_
        refine sh_g11 hx hb hts hown hK hP dX2_supplyOf_56 ?_
        refine lv_iload_n hx hb dX2_supplyOf_59 rfl (lv_at hl 3 rfl) ?_
        refine sh_r11 hx hb hK hP (k) rfl (by omega) (v := σ 11 k) rfl dX2_supplyOf_60 ?_
        refine sh_call (rest := []) hx hb hml hown hts hK hP (c_X2_isOfUse l D cI o a σ x (σ 11 k) (by assumption)) (kV_X2_isOfUse hts ml_X2_140 ⟨(Nat.le_of_ble_eq_true rfl), (Nat.le_of_ble_eq_true rfl)⟩) rfl hl.1 rfl (Nat.le_of_ble_eq_true rfl) dX2_supplyOf_61 (Nat.zero_le _) (Nat.zero_le _) ?_
        refine lv_if_eq (tgt := 70) hx hb dX2_supplyOf_64 (by decide) (fun c_64 => ?_) (fun c_64 => ?_)
        · refine lv_iinc (v := nI (k + 1)) (lv' := [(3, .int (nI (k + 1))), (4, .int (1)), (0, .ref (o)), (1, .int (x)), (2, .int (x2))]) hx hb dX2_supplyOf_70 hl (k := 3) rfl (nI_c1 _) (by decide) rfl (fun ls hl => ?_)
          refine lv_goto (tgt := 4) hx hb dX2_supplyOf_73 (by decide) ?_
          exact ih (k + 1) x2 (by omega) (by omega) (((br_n c_9 (br_p c_18 (br_p c_45 (br_p c_64 rfl)))) : g_X2_supplyOf_4 σ x fu (k + 1) x2 = g_X2_supplyOf_4 σ x (fu + 1) k x2).trans hg_4) ls (lv_sub hl [2, 3, 0, 4] rfl)
        refine lv_iinc (v := x2 + 1) (lv' := [(2, .int (x2 + 1)), (4, .int (1)), (0, .ref (o)), (1, .int (x)), (3, .int (nI k))]) hx hb dX2_supplyOf_67 hl (k := 4) rfl rfl (by decide) rfl (fun ls hl => ?_)
        refine lv_iinc (v := nI (k + 1)) (lv' := [(3, .int (nI (k + 1))), (2, .int (x2 + 1)), (4, .int (1)), (0, .ref (o)), (1, .int (x))]) hx hb dX2_supplyOf_70 hl (k := 4) rfl (nI_c1 _) (by decide) rfl (fun ls hl => ?_)
        refine lv_goto (tgt := 4) hx hb dX2_supplyOf_73 (by decide) ?_
        exact ih (k + 1) (x2 + 1) (by omega) (by omega) (((br_n c_9 (br_p c_18 (br_p c_45 (br_n c_64 rfl)))) : g_X2_supplyOf_4 σ x fu (k + 1) (x2 + 1) = g_X2_supplyOf_4 σ x (fu + 1) k x2).trans hg_4) ls (lv_sub hl [3, 4, 0, 1] rfl)
      refine lv_aload_n hx hb dX2_supplyOf_21 rfl (lv_at hl 0 rfl) ?_
      refine sh_g13 hx hb hts hown hK hP dX2_supplyOf_22 ?_
      refine lv_iload_n hx hb dX2_supplyOf_25 rfl (lv_at hl 2 rfl) ?_
      refine sh_r13 hx hb hK hP (k) rfl (by omega) (v := σ 13 k) rfl dX2_supplyOf_26 ?_
      refine lv_iconst (v := 1) hx hb dX2_supplyOf_27 (by decide) ?_
      refine lv_icmp_ne (tgt := 35) hx hb dX2_supplyOf_28 (by decide) (fun c_28 => ?_) (fun c_28 => ?_)
      · refine lv_iconst (v := 0) hx hb dX2_supplyOf_35 (by decide) ?_
        refine lv_istore (lv' := [(4, .int (0)), (0, .ref (o)), (1, .int (x)), (3, .int (nI k)), (2, .int (x2))]) hx hb dX2_supplyOf_36 hl (by decide) rfl (fun ls hl => ?_)
        refine lv_aload_n hx hb dX2_supplyOf_38 rfl (lv_at hl 1 rfl) ?_
        refine sh_g10 hx hb hts hown hK hP dX2_supplyOf_39 ?_
        refine lv_iload_n hx hb dX2_supplyOf_42 rfl (lv_at hl 3 rfl) ?_
        refine sh_r10 hx hb hK hP (k) rfl (by omega) (v := σ 10 k) rfl dX2_supplyOf_43 ?_
        refine lv_iload_n hx hb dX2_supplyOf_44 rfl (lv_at hl 2 rfl) ?_
        refine lv_icmp_ne (tgt := 70) hx hb dX2_supplyOf_45 (by decide) (fun c_45 => ?_) (fun c_45 => ?_)
        · refine lv_iinc (v := nI (k + 1)) (lv' := [(3, .int (nI (k + 1))), (4, .int (0)), (0, .ref (o)), (1, .int (x)), (2, .int (x2))]) hx hb dX2_supplyOf_70 hl (k := 3) rfl (nI_c1 _) (by decide) rfl (fun ls hl => ?_)
          refine lv_goto (tgt := 4) hx hb dX2_supplyOf_73 (by decide) ?_
          exact ih (k + 1) x2 (by omega) (by omega) (((br_n c_9 (br_n c_18 (br_n c_28 (br_n c_45 rfl)))) : g_X2_supplyOf_4 σ x fu (k + 1) x2 = g_X2_supplyOf_4 σ x (fu + 1) k x2).trans hg_4) ls (lv_sub hl [2, 3, 0, 4] rfl)
        refine lv_iload hx hb dX2_supplyOf_48 (lv_at hl 0 rfl) ?_
        refine lv_if_eq (tgt := 70) hx hb dX2_supplyOf_50 (by decide) (fun _ => ?_) (fun q => absurd rfl q)
        refine lv_iinc (v := nI (k + 1)) (lv' := [(3, .int (nI (k + 1))), (4, .int (0)), (0, .ref (o)), (1, .int (x)), (2, .int (x2))]) hx hb dX2_supplyOf_70 hl (k := 3) rfl (nI_c1 _) (by decide) rfl (fun ls hl => ?_)
        refine lv_goto (tgt := 4) hx hb dX2_supplyOf_73 (by decide) ?_
        exact ih (k + 1) x2 (by omega) (by omega) (((br_n c_9 (br_n c_18 (br_n c_28 (br_p c_45 rfl)))) : g_X2_supplyOf_4 σ x fu (k + 1) x2 = g_X2_supplyOf_4 σ x (fu + 1) k x2).trans hg_4) ls (lv_sub hl [2, 3, 0, 4] rfl)
      refine lv_iconst (v := 1) hx hb dX2_supplyOf_31 (by decide) ?_
      refine lv_goto (tgt := 36) hx hb dX2_supplyOf_32 (by decide) ?_
      refine lv_istore (lv' := [(4, .int (1)), (0, .ref (o)), (1, .int (x)), (3, .int (nI k)), (2, .int (x2))]) hx hb dX2_supplyOf_36 hl (by decide) rfl (fun ls hl => ?_)
      refine lv_aload_n hx hb dX2_supplyOf_38 rfl (lv_at hl 1 rfl) ?_
      refine sh_g10 hx hb hts hown hK hP dX2_supplyOf_39 ?_
      refine lv_iload_n hx hb dX2_supplyOf_42 rfl (lv_at hl 3 rfl) ?_
      refine sh_r10 hx hb hK hP (k) rfl (by omega) (v := σ 10 k) rfl dX2_supplyOf_43 ?_
      refine lv_iload_n hx hb dX2_supplyOf_44 rfl (lv_at hl 2 rfl) ?_
      refine lv_icmp_ne (tgt := 70) hx hb dX2_supplyOf_45 (by decide) (fun c_45 => ?_) (fun c_45 => ?_)
      · refine lv_iinc (v := nI (k + 1)) (lv' := [(3, .int (nI (k + 1))), (4, .int (1)), (0, .ref (o)), (1, .int (x)), (2, .int (x2))]) hx hb dX2_supplyOf_70 hl (k := 3) rfl (nI_c1 _) (by decide) rfl (fun ls hl => ?_)
        refine lv_goto (tgt := 4) hx hb dX2_supplyOf_73 (by decide) ?_
        exact ih (k + 1) x2 (by omega) (by omega) (((br_n c_9 (br_n c_18 (br_p c_28 (br_n c_45 rfl)))) : g_X2_supplyOf_4 σ x fu (k + 1) x2 = g_X2_supplyOf_4 σ x (fu + 1) k x2).trans hg_4) ls (lv_sub hl [2, 3, 0, 4] rfl)
      refine lv_iload hx hb dX2_supplyOf_48 (lv_at hl 0 rfl) ?_
      refine lv_if_eq (tgt := 70) hx hb dX2_supplyOf_50 (by decide) (fun q => absurd q (by decide)) (fun _ => ?_)
      refine lv_aload_n hx hb dX2_supplyOf_53 rfl (lv_at hl 1 rfl) ?_
      refine lv_iload_n hx hb dX2_supplyOf_54 rfl (lv_at hl 2 rfl) ?_
      refine lv_aload_n hx hb dX2_supplyOf_55 rfl (lv_at hl 1 rfl) ?_
      refine sh_g11 hx hb hts hown hK hP dX2_supplyOf_56 ?_
      refine lv_iload_n hx hb dX2_supplyOf_59 rfl (lv_at hl 3 rfl) ?_
      refine sh_r11 hx hb hK hP (k) rfl (by omega) (v := σ 11 k) rfl dX2_supplyOf_60 ?_
      refine sh_call (rest := []) hx hb hml hown hts hK hP (c_X2_isOfUse l D cI o a σ x (σ 11 k) (by assumption)) (kV_X2_isOfUse hts ml_X2_140 ⟨(Nat.le_of_ble_eq_true rfl), (Nat.le_of_ble_eq_true rfl)⟩) rfl hl.1 rfl (Nat.le_of_ble_eq_true rfl) dX2_supplyOf_61 (Nat.zero_le _) (Nat.zero_le _) ?_
      refine lv_if_eq (tgt := 70) hx hb dX2_supplyOf_64 (by decide) (fun c_64 => ?_) (fun c_64 => ?_)
      · refine lv_iinc (v := nI (k + 1)) (lv' := [(3, .int (nI (k + 1))), (4, .int (1)), (0, .ref (o)), (1, .int (x)), (2, .int (x2))]) hx hb dX2_supplyOf_70 hl (k := 3) rfl (nI_c1 _) (by decide) rfl (fun ls hl => ?_)
        refine lv_goto (tgt := 4) hx hb dX2_supplyOf_73 (by decide) ?_
        exact ih (k + 1) x2 (by omega) (by omega) (((br_n c_9 (br_n c_18 (br_p c_28 (br_p c_45 (br_p c_64 rfl))))) : g_X2_supplyOf_4 σ x fu (k + 1) x2 = g_X2_supplyOf_4 σ x (fu + 1) k x2).trans hg_4) ls (lv_sub hl [2, 3, 0, 4] rfl)
      refine lv_iinc (v := x2 + 1) (lv' := [(2, .int (x2 + 1)), (4, .int (1)), (0, .ref (o)), (1, .int (x)), (3, .int (nI k))]) hx hb dX2_supplyOf_67 hl (k := 4) rfl rfl (by decide) rfl (fun ls hl => ?_)
      refine lv_iinc (v := nI (k + 1)) (lv' := [(3, .int (nI (k + 1))), (2, .int (x2 + 1)), (4, .int (1)), (0, .ref (o)), (1, .int (x))]) hx hb dX2_supplyOf_70 hl (k := 4) rfl (nI_c1 _) (by decide) rfl (fun ls hl => ?_)
      refine lv_goto (tgt := 4) hx hb dX2_supplyOf_73 (by decide) ?_
      exact ih (k + 1) (x2 + 1) (by omega) (by omega) (((br_n c_9 (br_n c_18 (br_p c_28 (br_p c_45 (br_n c_64 rfl))))) : g_X2_supplyOf_4 σ x fu (k + 1) (x2 + 1) = g_X2_supplyOf_4 σ x (fu + 1) k x2).trans hg_4) ls (lv_sub hl [3, 4, 0, 1] rfl)
  exact L_4 (nN σ + 1) 0 0 (by omega) (by omega) rfl ls (lv_sub hl [2, 3, 0, 1] rfl)
theorem kV_X2_supplyOf {R : Room} {s : State} {args : Array Value} {own : String} {idx : Nat} {c0 : Cond} (hts : ∀ w ∈ c0 :: W0, w.before args s = true) (hl : Cond.methodLink own idx yX2_supplyOf ∈ W0) (hR : rm_X2_supplyOf.frames + 1 ≤ R.frames ∧ 8 + (5 + 11) + rm_X2_supplyOf.locals ≤ R.locals) : CallW R s args own RX2 idx yX2_supplyOf cX2_supplyOf 5 (some .int) (Cond.code yX2_supplyOf cX2_supplyOf 5 (some .int) :: W0) rm_X2_supplyOf 0 0 1 := cwV 1 hts (gdV hl mi_yX2_supplyOf ms_yX2_supplyOf mini_X2 mc_yX2_supplyOf) rfl rfl rfl (by decide +kernel) hR

/-! X2.demandOf -/
def g_X2_demandOf_4 (σ : Nat → Nat → Int32) (x : Int32) : Nat → (Nat) → (Int32) → Int32
  | 0, k, x2 => x2
  | fu + 1, k, x2 => (if nC σ ≤ k then x2 else (if (σ 7 k) = x then g_X2_demandOf_4 σ x fu (k + 1) (x2 + (σ 9 k)) else g_X2_demandOf_4 σ x fu (k + 1) x2))
def f_X2_demandOf (σ : Nat → Nat → Int32) (x : Int32) : Int32 := (g_X2_demandOf_4 σ x (nC σ + 1) 0 0)
abbrev rm_X2_demandOf : Room := { frames := 0, cells := 0, slots := 0, locals := 0 }
set_option maxRecDepth 100000 in
theorem c_X2_demandOf (l : Launch) (D : va_G) (cI : ClassId) (o : Nat) (a : Nat → Nat) (σ : Nat → Nat → Int32) (x : Int32) (hok : okS σ) :
    Met l yX2_demandOf (Cond.code yX2_demandOf cX2_demandOf 4 (some .int) :: W0) rm_X2_demandOf (va_Pc [.ref o, .int x] (shP D cI o a σ)) (vp_Si (fun r => r = f_X2_demandOf σ x)) 0 0 (fun _ => False) := by
  refine st_gen (cc := cX2_demandOf) (maxL := 4) (ret := some .int) (own := RX2) (by decide) rfl (Nat.le_of_ble_eq_true rfl) ?_
  intro p e s m below meth c ls C hPre hl
  obtain ⟨hx, hb, hr, hml, hown, hts, hlk⟩ := C
  obtain ⟨hP, hK⟩ := hPre
  have hl : lv_has ls 4 [(0, .ref (o)), (1, .int (x))] := hl
  obtain ⟨hT6, hC6, hN6⟩ := okS_b hok
  refine lv_iconst (v := 0) hx hb dX2_demandOf_0 (by decide) ?_
  refine lv_istore_n (lv' := [(2, .int (0)), (0, .ref (o)), (1, .int (x))]) hx hb dX2_demandOf_1 rfl hl (by decide) rfl (fun ls hl => ?_)
  refine lv_iconst (v := 0) hx hb dX2_demandOf_2 (by decide) ?_
  refine lv_istore_n (lv' := [(3, .int (0)), (2, .int (0)), (0, .ref (o)), (1, .int (x))]) hx hb dX2_demandOf_3 rfl hl (by decide) rfl (fun ls hl => ?_)
  have K_37 : ∀ ls, lv_has ls 4 [(0, .ref (o)), (1, .int (x)), (2, .int ((g_X2_demandOf_4 σ x (nC σ + 1) 0 0)))] → W p l e rm_X2_demandOf s m (([.ref (o), .int (x)] : List Value).toArray) below meth c s.heap [] 0 0 (MQ below (vp_Si (fun r => r = f_X2_demandOf σ x)) ([.ref (o), .int (x)] : List Value).toArray s 0 0 (fun _ => False)) (F0 m 37 ls []) := by
    intro ls hl
    refine lv_iload_n hx hb dX2_demandOf_37 rfl (lv_at hl 2 rfl) ?_
    exact fin_i hx hb hr hlk rfl dX2_demandOf_38
  have L_4 : ∀ (fu : Nat) (k : Nat) (x2 : Int32), nC σ - k < fu → k ≤ nC σ → g_X2_demandOf_4 σ x fu k x2 = g_X2_demandOf_4 σ x (nC σ + 1) 0 0 → ∀ ls, lv_has ls 4 [(0, .ref (o)), (1, .int (x)), (3, .int (nI k)), (2, .int (x2))] → W p l e rm_X2_demandOf s m (([.ref (o), .int (x)] : List Value).toArray) below meth c s.heap [] 0 0 (MQ below (vp_Si (fun r => r = f_X2_demandOf σ x)) ([.ref (o), .int (x)] : List Value).toArray s 0 0 (fun _ => False)) (F0 m 4 ls []) := by
    intro fu
    induction fu with
    | zero => intro k x2 hm; exact absurd hm (Nat.not_lt_zero _)
    | succ fu ih =>
      intro k x2 hm hkN hg_4 ls hl
      refine lv_iload_n hx hb dX2_demandOf_4 rfl (lv_at hl 2 rfl) ?_
      refine lv_aload_n hx hb dX2_demandOf_5 rfl (lv_at hl 0 rfl) ?_
      refine sh_g2 hx hb hts hown hK hP (v := σ 2 0) rfl dX2_demandOf_6 ?_
      refine lv_icmp_geN (k) (nC σ) hx hb rfl (okS_2 (σ := σ) (by assumption)) (by omega) (by omega) (tgt := 37) dX2_demandOf_9 (by decide) (fun c_9 => ?_) (fun c_9 => ?_)
      · have ex : x2 = g_X2_demandOf_4 σ x (nC σ + 1) 0 0 := ((br_p c_9 rfl) : x2 = g_X2_demandOf_4 σ x (fu + 1) k x2).trans hg_4
        exact K_37 ls (by rw [← ex]; exact lv_sub hl [0, 1, 3] rfl)
      refine lv_aload_n hx hb dX2_demandOf_12 rfl (lv_at hl 0 rfl) ?_
      refine sh_g7 hx hb hts hown hK hP dX2_demandOf_13 ?_
      refine lv_iload_n hx hb dX2_demandOf_16 rfl (lv_at hl 2 rfl) ?_
      refine sh_r7 hx hb hK hP (k) rfl (by omega) (v := σ 7 k) rfl dX2_demandOf_17 ?_
      refine lv_iload_n hx hb dX2_demandOf_18 rfl (lv_at hl 1 rfl) ?_
      refine lv_icmp_ne (tgt := 31) hx hb dX2_demandOf_19 (by decide) (fun c_19 => ?_) (fun c_19 => ?_)
      · refine lv_iinc (v := nI (k + 1)) (lv' := [(3, .int (nI (k + 1))), (0, .ref (o)), (1, .int (x)), (2, .int (x2))]) hx hb dX2_demandOf_31 hl (k := 2) rfl (nI_c1 _) (by decide) rfl (fun ls hl => ?_)
        refine lv_goto (tgt := 4) hx hb dX2_demandOf_34 (by decide) ?_
        exact ih (k + 1) x2 (by omega) (by omega) (((br_n c_9 (br_n c_19 rfl)) : g_X2_demandOf_4 σ x fu (k + 1) x2 = g_X2_demandOf_4 σ x (fu + 1) k x2).trans hg_4) ls (lv_sub hl [1, 2, 0, 3] rfl)
      refine lv_iload_n hx hb dX2_demandOf_22 rfl (lv_at hl 3 rfl) ?_
      refine lv_aload_n hx hb dX2_demandOf_23 rfl (lv_at hl 0 rfl) ?_
      refine sh_g9 hx hb hts hown hK hP dX2_demandOf_24 ?_
      refine lv_iload_n hx hb dX2_demandOf_27 rfl (lv_at hl 2 rfl) ?_
      refine sh_r9 hx hb hK hP (k) rfl (by omega) (v := σ 9 k) rfl dX2_demandOf_28 ?_
      refine lv_iadd hx hb dX2_demandOf_29 ?_
      refine lv_istore_n (lv' := [(2, .int (x2 + (σ 9 k))), (0, .ref (o)), (1, .int (x)), (3, .int (nI k))]) hx hb dX2_demandOf_30 rfl hl (by decide) rfl (fun ls hl => ?_)
      refine lv_iinc (v := nI (k + 1)) (lv' := [(3, .int (nI (k + 1))), (2, .int (x2 + (σ 9 k))), (0, .ref (o)), (1, .int (x))]) hx hb dX2_demandOf_31 hl (k := 3) rfl (nI_c1 _) (by decide) rfl (fun ls hl => ?_)
      refine lv_goto (tgt := 4) hx hb dX2_demandOf_34 (by decide) ?_
      exact ih (k + 1) (x2 + (σ 9 k)) (by omega) (by omega) (((br_n c_9 (br_p c_19 rfl)) : g_X2_demandOf_4 σ x fu (k + 1) (x2 + (σ 9 k)) = g_X2_demandOf_4 σ x (fu + 1) k x2).trans hg_4) ls (lv_sub hl [2, 3, 0, 1] rfl)
  exact L_4 (nC σ + 1) 0 0 (by omega) (by omega) rfl ls (lv_sub hl [2, 3, 0, 1] rfl)
theorem kV_X2_demandOf {R : Room} {s : State} {args : Array Value} {own : String} {idx : Nat} {c0 : Cond} (hts : ∀ w ∈ c0 :: W0, w.before args s = true) (hl : Cond.methodLink own idx yX2_demandOf ∈ W0) (hR : rm_X2_demandOf.frames + 1 ≤ R.frames ∧ 8 + (4 + 11) + rm_X2_demandOf.locals ≤ R.locals) : CallW R s args own RX2 idx yX2_demandOf cX2_demandOf 4 (some .int) (Cond.code yX2_demandOf cX2_demandOf 4 (some .int) :: W0) rm_X2_demandOf 0 0 1 := cwV 1 hts (gdV hl mi_yX2_demandOf ms_yX2_demandOf mini_X2 mc_yX2_demandOf) rfl rfl rfl (by decide +kernel) hR

/-! X2.worthBy -/
def f_X2_worthBy (σ : Nat → Nat → Int32) (t : Nat) (y : Int32) (z : Int32) (w : Int32) : Int32 := (((σ 5 t) * (100 - (20 * w))) / 100) - (((((σ 5 t) * (100 - (20 * w))) / 100) * (if ((σ 4 3) * (if 0 < (y - z) then (y - z) else 0)) < 100 then ((σ 4 3) * (if 0 < (y - z) then (y - z) else 0)) else 100)) / 100)
abbrev rm_X2_worthBy : Room := { frames := 1, cells := 0, slots := 0, locals := 21 }
set_option maxRecDepth 100000 in
theorem c_X2_worthBy (l : Launch) (D : va_G) (cI : ClassId) (o : Nat) (a : Nat → Nat) (σ : Nat → Nat → Int32) (x : Int32) (t : Nat) (hx : x = nI t) (y : Int32) (z : Int32) (w : Int32) (ht : t < 6) :
    Met l yX2_worthBy (Cond.code yX2_worthBy cX2_worthBy 8 (some .int) :: W0) rm_X2_worthBy (va_Pc [.ref o, .int x, .int y, .int z, .int w] (shP D cI o a σ)) (vp_Si (fun r => r = f_X2_worthBy σ t y z w)) 0 0 (fun _ => False) := by
  subst hx
  refine st_gen (cc := cX2_worthBy) (maxL := 8) (ret := some .int) (own := RX2) (by decide) rfl (Nat.le_of_ble_eq_true rfl) ?_
  intro p e s m below meth c ls C hPre hl
  obtain ⟨hx, hb, hr, hml, hown, hts, hlk⟩ := C
  obtain ⟨hP, hK⟩ := hPre
  have hl : lv_has ls 8 [(0, .ref (o)), (1, .int (nI t)), (2, .int (y)), (3, .int (z)), (4, .int (w))] := hl
  refine lv_aload_n hx hb dX2_worthBy_0 rfl (lv_at hl 0 rfl) ?_
  refine sh_g5 hx hb hts hown hK hP dX2_worthBy_1 ?_
  refine lv_iload_n hx hb dX2_worthBy_4 rfl (lv_at hl 1 rfl) ?_
  refine sh_r5 hx hb hK hP (t) rfl (by omega) (v := σ 5 t) rfl dX2_worthBy_5 ?_
  refine lv_bipush (v := 100) hx hb dX2_worthBy_6 (by decide) ?_
  refine lv_bipush (v := 20) hx hb dX2_worthBy_8 (by decide) ?_
  refine lv_iload hx hb dX2_worthBy_10 (lv_at hl 4 rfl) ?_
  refine lv_imul hx hb dX2_worthBy_12 ?_
  refine lv_isub hx hb dX2_worthBy_13 ?_
  refine lv_imul hx hb dX2_worthBy_14 ?_
  refine lv_bipush (v := 100) hx hb dX2_worthBy_15 (by decide) ?_
  refine lv_idiv hx hb dX2_worthBy_17 (by decide) ?_
  refine lv_istore (lv' := [(5, .int (((σ 5 t) * (100 - (20 * w))) / 100)), (0, .ref (o)), (1, .int (nI t)), (2, .int (y)), (3, .int (z)), (4, .int (w))]) hx hb dX2_worthBy_18 hl (by decide) rfl (fun ls hl => ?_)
  refine lv_iconst (v := 0) hx hb dX2_worthBy_20 (by decide) ?_
  refine lv_iload_n hx hb dX2_worthBy_21 rfl (lv_at hl 3 rfl) ?_
  refine lv_iload_n hx hb dX2_worthBy_22 rfl (lv_at hl 4 rfl) ?_
  refine lv_isub hx hb dX2_worthBy_23 ?_
  refine r_max hx hb hml hown hts hl.1 ml_X2_116 (Nat.le_of_ble_eq_true rfl) (Nat.le_of_ble_eq_true rfl) (Nat.zero_le _) (Nat.zero_le _) (rest := []) dX2_worthBy_24 ?_
  refine lv_istore (lv' := [(6, .int (if 0 < (y - z) then (y - z) else 0)), (5, .int (((σ 5 t) * (100 - (20 * w))) / 100)), (0, .ref (o)), (1, .int (nI t)), (2, .int (y)), (3, .int (z)), (4, .int (w))]) hx hb dX2_worthBy_27 hl (by decide) rfl (fun ls hl => ?_)
  refine lv_bipush (v := 100) hx hb dX2_worthBy_29 (by decide) ?_
  refine lv_aload_n hx hb dX2_worthBy_31 rfl (lv_at hl 2 rfl) ?_
  refine sh_g4 hx hb hts hown hK hP dX2_worthBy_32 ?_
  refine lv_iconst (v := 3) hx hb dX2_worthBy_35 (by decide) ?_
  refine sh_r4 hx hb hK hP (3) rfl (by omega) (v := σ 4 3) rfl dX2_worthBy_36 ?_
  refine lv_iload hx hb dX2_worthBy_37 (lv_at hl 0 rfl) ?_
  refine lv_imul hx hb dX2_worthBy_39 ?_
  refine r_min hx hb hml hown hts hl.1 ml_X2_71 (Nat.le_of_ble_eq_true rfl) (Nat.le_of_ble_eq_true rfl) (Nat.zero_le _) (Nat.zero_le _) (rest := []) dX2_worthBy_40 ?_
  refine lv_istore (lv' := [(7, .int (if ((σ 4 3) * (if 0 < (y - z) then (y - z) else 0)) < 100 then ((σ 4 3) * (if 0 < (y - z) then (y - z) else 0)) else 100)), (6, .int (if 0 < (y - z) then (y - z) else 0)), (5, .int (((σ 5 t) * (100 - (20 * w))) / 100)), (0, .ref (o)), (1, .int (nI t)), (2, .int (y)), (3, .int (z)), (4, .int (w))]) hx hb dX2_worthBy_43 hl (by decide) rfl (fun ls hl => ?_)
  refine lv_iload hx hb dX2_worthBy_45 (lv_at hl 2 rfl) ?_
  refine lv_iload hx hb dX2_worthBy_47 (lv_at hl 2 rfl) ?_
  refine lv_iload hx hb dX2_worthBy_49 (lv_at hl 0 rfl) ?_
  refine lv_imul hx hb dX2_worthBy_51 ?_
  refine lv_bipush (v := 100) hx hb dX2_worthBy_52 (by decide) ?_
  refine lv_idiv hx hb dX2_worthBy_54 (by decide) ?_
  refine lv_isub hx hb dX2_worthBy_55 ?_
  exact fin_i hx hb hr hlk rfl dX2_worthBy_56
theorem kV_X2_worthBy {R : Room} {s : State} {args : Array Value} {own : String} {idx : Nat} {c0 : Cond} (hts : ∀ w ∈ c0 :: W0, w.before args s = true) (hl : Cond.methodLink own idx yX2_worthBy ∈ W0) (hR : rm_X2_worthBy.frames + 1 ≤ R.frames ∧ 8 + (8 + 11) + rm_X2_worthBy.locals ≤ R.locals) : CallW R s args own RX2 idx yX2_worthBy cX2_worthBy 8 (some .int) (Cond.code yX2_worthBy cX2_worthBy 8 (some .int) :: W0) rm_X2_worthBy 0 0 4 := cwV 4 hts (gdV hl mi_yX2_worthBy ms_yX2_worthBy mini_X2 mc_yX2_worthBy) rfl rfl rfl (by decide +kernel) hR

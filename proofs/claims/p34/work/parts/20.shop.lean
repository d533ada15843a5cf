/-! ===== the shop's state: what its numbers are bounded by ===== -/
def nT (σ : Nat → Nat → Int32) : Nat := tn (σ 1 0)
def nC (σ : Nat → Nat → Int32) : Nat := tn (σ 2 0)
def nN (σ : Nat → Nat → Int32) : Nat := tn (σ 3 0)
def tOf (σ : Nat → Nat → Int32) (k : Nat) : Nat := tn (σ 10 k)
def rOf (σ : Nat → Nat → Int32) (k : Nat) : Nat := tn (σ 14 k)
def okS (σ : Nat → Nat → Int32) : Prop := (σ 1 0 = nI (nT σ) ∧ nT σ ≤ 6) ∧ (σ 2 0 = nI (nC σ) ∧ nC σ ≤ 6) ∧ (σ 3 0 = nI (nN σ) ∧ nN σ ≤ 60) ∧ (∀ k, k < nN σ → σ 10 k = nI (tOf σ k) ∧ tOf σ k < 6) ∧ (∀ k, k < nN σ → σ 13 k = 1 → σ 14 k = nI (rOf σ k) ∧ rOf σ k < 8)
theorem okS_b {σ : Nat → Nat → Int32} (h : okS σ) : nT σ ≤ 6 ∧ nC σ ≤ 6 ∧ nN σ ≤ 60 := ⟨h.1.2, h.2.1.2, h.2.2.1.2⟩
theorem okS_1 {σ : Nat → Nat → Int32} (h : okS σ) : σ 1 0 = nI (nT σ) := h.1.1
theorem okS_2 {σ : Nat → Nat → Int32} (h : okS σ) : σ 2 0 = nI (nC σ) := h.2.1.1
theorem okS_3 {σ : Nat → Nat → Int32} (h : okS σ) : σ 3 0 = nI (nN σ) := h.2.2.1.1
theorem okS_t {σ : Nat → Nat → Int32} (h : okS σ) {k : Nat} (hk : k < nN σ) : σ 10 k = nI (tOf σ k) ∧ tOf σ k < 6 := h.2.2.2.1 k hk
theorem okS_r {σ : Nat → Nat → Int32} (h : okS σ) {k : Nat} (hk : k < nN σ) (h1 : σ 13 k = 1) : σ 14 k = nI (rOf σ k) ∧ rOf σ k < 8 := h.2.2.2.2 k hk h1
theorem tn_pos {x : Int32} (h : 0 ≤ x) : x = nI (tn x) := by
  obtain ⟨j, hj, rfl⟩ := nI_of (x := x) (fun q => Int32.not_le.mpr q h)
  rw [tn_nI hj]
theorem tn_le {x : Int32} {n : Nat} (h : 0 ≤ x) (h2 : x ≤ nI n) (hn : n < 2 ^ 31) : tn x ≤ n := by
  have e := tn_pos h
  have b : tn x < 2 ^ 31 := by
    obtain ⟨j, hj, rfl⟩ := nI_of (x := x) (fun q => Int32.not_le.mpr q h)
    rw [tn_nI hj]; exact hj
  rw [e] at h2
  exact (nI_leI b hn).mp h2
theorem tn_lt {x : Int32} {n : Nat} (h : 0 ≤ x) (h2 : x ≤ nI n - 1) (hn : n < 2 ^ 30) : tn x < n := by
  cases n with
  | zero =>
    have h3 : x < 0 := Int32.lt_of_le_of_lt h2 (by decide)
    exact absurd h (Int32.not_le.mpr h3)
  | succ n => rw [nI_pred] at h2; exact Nat.lt_succ_of_le (tn_le h h2 (by omega))
theorem okS_of {σ σ' : Nat → Nat → Int32} (h : okS σ) (e1 : σ' 1 = σ 1) (e2 : σ' 2 = σ 2) (e3 : σ' 3 = σ 3) (e10 : σ' 10 = σ 10) (e14 : σ' 14 = σ 14) (e13 : ∀ j, σ' 13 j = 1 → σ 13 j = 1) : okS σ' := by
  unfold okS nT nC nN tOf rOf
  rw [e1, e2, e3, e10, e14]
  exact ⟨h.1, h.2.1, h.2.2.1, h.2.2.2.1, fun k hk h1 => h.2.2.2.2 k hk (e13 k h1)⟩
theorem shU_13 {σ : Nat → Nat → Int32} {k j : Nat} {v : Int32} (hv : v ≠ 1) (h : shU σ 13 k v 13 j = 1) : σ 13 j = 1 := by
  have h2 : (if j = k then v else σ 13 j) = 1 := h
  split at h2
  · exact absurd h2 hv
  · exact h2
theorem best_ok {k N : Nat} (hk : k < N) (hN : N ≤ 60) : tn (nI k) < N ∧ nI k = nI (tn (nI k)) := by rw [tn_nI (by omega)]; exact ⟨hk, rfl⟩

/-! X2.isBetween -/
def f_X2_isBetween (x : Int32) (y : Int32) (z : Int32) : Int32 := (if x < y then 0 else (if z < x then 0 else 1))
abbrev rm_X2_isBetween : Room := { frames := 0, cells := 0, slots := 0, locals := 0 }
set_option maxRecDepth 100000 in
theorem c_X2_isBetween (l : Launch) (x : Int32) (y : Int32) (z : Int32) :
    Met l yX2_isBetween (Cond.code yX2_isBetween cX2_isBetween 3 (some .boolean) :: W0) rm_X2_isBetween (va_Pc [.int x, .int y, .int z] (fun _ => True)) (vp_Si (fun r => r = f_X2_isBetween x y z)) 0 0 (fun _ => False) := by
  refine st_gen (cc := cX2_isBetween) (maxL := 3) (ret := some .boolean) (own := RX2) (by decide) rfl (Nat.le_of_ble_eq_true rfl) ?_
  intro p e s m below meth c ls C hPre hl
  obtain ⟨hx, hb, hr, hml, hown, hts, hlk⟩ := C
  have hl : lv_has ls 3 [(0, .int (x)), (1, .int (y)), (2, .int (z))] := hl
  refine lv_iload_n hx hb dX2_isBetween_0 rfl (lv_at hl 0 rfl) ?_
  refine lv_iload_n hx hb dX2_isBetween_1 rfl (lv_at hl 1 rfl) ?_
  refine lv_icmp_lt (tgt := 14) hx hb dX2_isBetween_2 (by decide) (fun c_2 => ?_) (fun c_2 => ?_)
  · refine lv_iconst (v := 0) hx hb dX2_isBetween_14 (by decide) ?_
    exact fin_z hx hb hr hlk (Or.inl rfl) (br_p c_2 rfl) dX2_isBetween_15
  refine lv_iload_n hx hb dX2_isBetween_5 rfl (lv_at hl 0 rfl) ?_
  refine lv_iload_n hx hb dX2_isBetween_6 rfl (lv_at hl 2 rfl) ?_
  refine lv_icmp_gt (tgt := 14) hx hb dX2_isBetween_7 (by decide) (fun c_7 => ?_) (fun c_7 => ?_)
  · refine lv_iconst (v := 0) hx hb dX2_isBetween_14 (by decide) ?_
    exact fin_z hx hb hr hlk (Or.inl rfl) (br_n c_2 (br_p c_7 rfl)) dX2_isBetween_15
  refine lv_iconst (v := 1) hx hb dX2_isBetween_10 (by decide) ?_
  refine lv_goto (tgt := 15) hx hb dX2_isBetween_11 (by decide) ?_
  exact fin_z hx hb hr hlk (Or.inr rfl) (br_n c_2 (br_n c_7 rfl)) dX2_isBetween_15
theorem kS_X2_isBetween {R : Room} {s : State} {args : Array Value} {own : String} {idx : Nat} {c0 : Cond} (hts : ∀ w ∈ c0 :: W0, w.before args s = true) (hl : Cond.methodLink own idx yX2_isBetween ∈ W0) (hR : rm_X2_isBetween.frames + 1 ≤ R.frames ∧ 8 + (3 + 11) + rm_X2_isBetween.locals ≤ R.locals) : CallB R s args own idx yX2_isBetween cX2_isBetween 3 (some .boolean) (Cond.code yX2_isBetween cX2_isBetween 3 (some .boolean) :: W0) rm_X2_isBetween 0 0 3 ∧ (Cond.static yX2_isBetween).before args s = true := va_cwS 3 hts (gdS hl mst_yX2_isBetween mini_X2 mc_yX2_isBetween) rfl rfl rfl (by decide +kernel) hR

theorem z_X2_isBetween {x : Int32} {y : Int32} {z : Int32} : f_X2_isBetween x y z = 0 ∨ f_X2_isBetween x y z = 1 := by
  unfold f_X2_isBetween
  (repeat' split) <;> first | exact Or.inl rfl | exact Or.inr rfl

theorem btw_nz {x y z : Int32} (h : ¬ f_X2_isBetween x y z = 0) : y ≤ x ∧ x ≤ z := by
  unfold f_X2_isBetween at h
  split at h
  · exact absurd rfl h
  · split at h
    · exact absurd rfl h
    · exact ⟨Int32.not_lt.mp (by with_reducible assumption), Int32.not_lt.mp (by with_reducible assumption)⟩
theorem btw_z {x y z : Int32} (h : f_X2_isBetween x y z = 0) : ¬ (y ≤ x ∧ x ≤ z) := by
  intro q
  unfold f_X2_isBetween at h
  rw [if_neg (Int32.not_lt.mpr q.1), if_neg (Int32.not_lt.mpr q.2)] at h
  exact absurd h (by decide)
theorem btwN (n : Nat) {x y z : Int32} (h : ¬ f_X2_isBetween x y z = 0) (hy : 0 ≤ y) (hz : z = nI n) (hn : n < 2 ^ 31) : tn x ≤ n ∧ x = nI (tn x) := by
  have q := btw_nz h
  have h0 : 0 ≤ x := Int32.le_trans hy q.1
  exact ⟨tn_le h0 (hz ▸ q.2) hn, tn_pos h0⟩

/-! X2.hasCustomer -/
def f_X2_hasCustomer (x : Int32) : Int32 := (f_X2_isBetween x 0 7)
abbrev rm_X2_hasCustomer : Room := { frames := 1, cells := 0, slots := 0, locals := 22 }
set_option maxRecDepth 100000 in
theorem c_X2_hasCustomer (l : Launch) (x : Int32) :
    Met l yX2_hasCustomer (Cond.code yX2_hasCustomer cX2_hasCustomer 1 (some .boolean) :: W0) rm_X2_hasCustomer (va_Pc [.int x] (fun _ => True)) (vp_Si (fun r => r = f_X2_hasCustomer x)) 0 0 (fun _ => False) := by
  refine st_gen (cc := cX2_hasCustomer) (maxL := 1) (ret := some .boolean) (own := RX2) (by decide) rfl (Nat.le_of_ble_eq_true rfl) ?_
  intro p e s m below meth c ls C hPre hl
  obtain ⟨hx, hb, hr, hml, hown, hts, hlk⟩ := C
  have hl : lv_has ls 1 [(0, .int (x))] := hl
  refine lv_iload_n hx hb dX2_hasCustomer_0 rfl (lv_at hl 0 rfl) ?_
  refine lv_iconst (v := 0) hx hb dX2_hasCustomer_1 (by decide) ?_
  refine lv_bipush (v := 7) hx hb dX2_hasCustomer_2 (by decide) ?_
  refine cl_S (rest := []) hx hb hml hown hts (c_X2_isBetween l x 0 7) (kS_X2_isBetween hts ml_X2_93 ⟨(Nat.le_of_ble_eq_true rfl), (Nat.le_of_ble_eq_true rfl)⟩) rfl hl.1 rfl (Nat.le_of_ble_eq_true rfl) dX2_hasCustomer_4 (Nat.zero_le _) (Nat.zero_le _) ?_
  exact fin_z hx hb hr hlk (z_X2_isBetween ..) rfl dX2_hasCustomer_7
theorem kS_X2_hasCustomer {R : Room} {s : State} {args : Array Value} {own : String} {idx : Nat} {c0 : Cond} (hts : ∀ w ∈ c0 :: W0, w.before args s = true) (hl : Cond.methodLink own idx yX2_hasCustomer ∈ W0) (hR : rm_X2_hasCustomer.frames + 1 ≤ R.frames ∧ 8 + (1 + 11) + rm_X2_hasCustomer.locals ≤ R.locals) : CallB R s args own idx yX2_hasCustomer cX2_hasCustomer 1 (some .boolean) (Cond.code yX2_hasCustomer cX2_hasCustomer 1 (some .boolean) :: W0) rm_X2_hasCustomer 0 0 1 ∧ (Cond.static yX2_hasCustomer).before args s = true := va_cwS 1 hts (gdS hl mst_yX2_hasCustomer mini_X2 mc_yX2_hasCustomer) rfl rfl rfl (by decide +kernel) hR

theorem z_X2_hasCustomer {x : Int32} : f_X2_hasCustomer x = 0 ∨ f_X2_hasCustomer x = 1 := by
  unfold f_X2_hasCustomer
  (repeat' split) <;> first | exact Or.inl rfl | exact Or.inr rfl | exact z_X2_isBetween

theorem hasCustomer_ok {x : Int32} (h : ¬ f_X2_hasCustomer x = 0) : tn x < 8 ∧ x = nI (tn x) := by
  have q := btwN 7 (x := x) (y := 0) (z := 7) h (by decide) rfl (by decide)
  exact ⟨by omega, q.2⟩

/-! X2.isPrice -/
def f_X2_isPrice (x : Int32) : Int32 := (f_X2_isBetween x 100 20000)
abbrev rm_X2_isPrice : Room := { frames := 1, cells := 0, slots := 0, locals := 22 }
set_option maxRecDepth 100000 in
theorem c_X2_isPrice (l : Launch) (x : Int32) :
    Met l yX2_isPrice (Cond.code yX2_isPrice cX2_isPrice 1 (some .boolean) :: W0) rm_X2_isPrice (va_Pc [.int x] (fun _ => True)) (vp_Si (fun r => r = f_X2_isPrice x)) 0 0 (fun _ => False) := by
  refine st_gen (cc := cX2_isPrice) (maxL := 1) (ret := some .boolean) (own := RX2) (by decide) rfl (Nat.le_of_ble_eq_true rfl) ?_
  intro p e s m below meth c ls C hPre hl
  obtain ⟨hx, hb, hr, hml, hown, hts, hlk⟩ := C
  have hl : lv_has ls 1 [(0, .int (x))] := hl
  refine lv_iload_n hx hb dX2_isPrice_0 rfl (lv_at hl 0 rfl) ?_
  refine lv_bipush (v := 100) hx hb dX2_isPrice_1 (by decide) ?_
  refine lv_sipush (v := 20000) hx hb dX2_isPrice_3 (by decide) ?_
  refine cl_S (rest := []) hx hb hml hown hts (c_X2_isBetween l x 100 20000) (kS_X2_isBetween hts ml_X2_93 ⟨(Nat.le_of_ble_eq_true rfl), (Nat.le_of_ble_eq_true rfl)⟩) rfl hl.1 rfl (Nat.le_of_ble_eq_true rfl) dX2_isPrice_6 (Nat.zero_le _) (Nat.zero_le _) ?_
  exact fin_z hx hb hr hlk (z_X2_isBetween ..) rfl dX2_isPrice_9
theorem kS_X2_isPrice {R : Room} {s : State} {args : Array Value} {own : String} {idx : Nat} {c0 : Cond} (hts : ∀ w ∈ c0 :: W0, w.before args s = true) (hl : Cond.methodLink own idx yX2_isPrice ∈ W0) (hR : rm_X2_isPrice.frames + 1 ≤ R.frames ∧ 8 + (1 + 11) + rm_X2_isPrice.locals ≤ R.locals) : CallB R s args own idx yX2_isPrice cX2_isPrice 1 (some .boolean) (Cond.code yX2_isPrice cX2_isPrice 1 (some .boolean) :: W0) rm_X2_isPrice 0 0 1 ∧ (Cond.static yX2_isPrice).before args s = true := va_cwS 1 hts (gdS hl mst_yX2_isPrice mini_X2 mc_yX2_isPrice) rfl rfl rfl (by decide +kernel) hR

theorem z_X2_isPrice {x : Int32} : f_X2_isPrice x = 0 ∨ f_X2_isPrice x = 1 := by
  unfold f_X2_isPrice
  (repeat' split) <;> first | exact Or.inl rfl | exact Or.inr rfl | exact z_X2_isBetween

/-! X2.isEdition -/
def f_X2_isEdition (x : Int32) : Int32 := (f_X2_isBetween x 1 30)
abbrev rm_X2_isEdition : Room := { frames := 1, cells := 0, slots := 0, locals := 22 }
set_option maxRecDepth 100000 in
theorem c_X2_isEdition (l : Launch) (x : Int32) :
    Met l yX2_isEdition (Cond.code yX2_isEdition cX2_isEdition 1 (some .boolean) :: W0) rm_X2_isEdition (va_Pc [.int x] (fun _ => True)) (vp_Si (fun r => r = f_X2_isEdition x)) 0 0 (fun _ => False) := by
  refine st_gen (cc := cX2_isEdition) (maxL := 1) (ret := some .boolean) (own := RX2) (by decide) rfl (Nat.le_of_ble_eq_true rfl) ?_
  intro p e s m below meth c ls C hPre hl
  obtain ⟨hx, hb, hr, hml, hown, hts, hlk⟩ := C
  have hl : lv_has ls 1 [(0, .int (x))] := hl
  refine lv_iload_n hx hb dX2_isEdition_0 rfl (lv_at hl 0 rfl) ?_
  refine lv_iconst (v := 1) hx hb dX2_isEdition_1 (by decide) ?_
  refine lv_bipush (v := 30) hx hb dX2_isEdition_2 (by decide) ?_
  refine cl_S (rest := []) hx hb hml hown hts (c_X2_isBetween l x 1 30) (kS_X2_isBetween hts ml_X2_93 ⟨(Nat.le_of_ble_eq_true rfl), (Nat.le_of_ble_eq_true rfl)⟩) rfl hl.1 rfl (Nat.le_of_ble_eq_true rfl) dX2_isEdition_4 (Nat.zero_le _) (Nat.zero_le _) ?_
  exact fin_z hx hb hr hlk (z_X2_isBetween ..) rfl dX2_isEdition_7
theorem kS_X2_isEdition {R : Room} {s : State} {args : Array Value} {own : String} {idx : Nat} {c0 : Cond} (hts : ∀ w ∈ c0 :: W0, w.before args s = true) (hl : Cond.methodLink own idx yX2_isEdition ∈ W0) (hR : rm_X2_isEdition.frames + 1 ≤ R.frames ∧ 8 + (1 + 11) + rm_X2_isEdition.locals ≤ R.locals) : CallB R s args own idx yX2_isEdition cX2_isEdition 1 (some .boolean) (Cond.code yX2_isEdition cX2_isEdition 1 (some .boolean) :: W0) rm_X2_isEdition 0 0 1 ∧ (Cond.static yX2_isEdition).before args s = true := va_cwS 1 hts (gdS hl mst_yX2_isEdition mini_X2 mc_yX2_isEdition) rfl rfl rfl (by decide +kernel) hR

theorem z_X2_isEdition {x : Int32} : f_X2_isEdition x = 0 ∨ f_X2_isEdition x = 1 := by
  unfold f_X2_isEdition
  (repeat' split) <;> first | exact Or.inl rfl | exact Or.inr rfl | exact z_X2_isBetween

/-! X2.isGrade -/
def f_X2_isGrade (x : Int32) : Int32 := (f_X2_isBetween x 0 4)
abbrev rm_X2_isGrade : Room := { frames := 1, cells := 0, slots := 0, locals := 22 }
set_option maxRecDepth 100000 in
theorem c_X2_isGrade (l : Launch) (x : Int32) :
    Met l yX2_isGrade (Cond.code yX2_isGrade cX2_isGrade 1 (some .boolean) :: W0) rm_X2_isGrade (va_Pc [.int x] (fun _ => True)) (vp_Si (fun r => r = f_X2_isGrade x)) 0 0 (fun _ => False) := by
  refine st_gen (cc := cX2_isGrade) (maxL := 1) (ret := some .boolean) (own := RX2) (by decide) rfl (Nat.le_of_ble_eq_true rfl) ?_
  intro p e s m below meth c ls C hPre hl
  obtain ⟨hx, hb, hr, hml, hown, hts, hlk⟩ := C
  have hl : lv_has ls 1 [(0, .int (x))] := hl
  refine lv_iload_n hx hb dX2_isGrade_0 rfl (lv_at hl 0 rfl) ?_
  refine lv_iconst (v := 0) hx hb dX2_isGrade_1 (by decide) ?_
  refine lv_iconst (v := 4) hx hb dX2_isGrade_2 (by decide) ?_
  refine cl_S (rest := []) hx hb hml hown hts (c_X2_isBetween l x 0 4) (kS_X2_isBetween hts ml_X2_93 ⟨(Nat.le_of_ble_eq_true rfl), (Nat.le_of_ble_eq_true rfl)⟩) rfl hl.1 rfl (Nat.le_of_ble_eq_true rfl) dX2_isGrade_3 (Nat.zero_le _) (Nat.zero_le _) ?_
  exact fin_z hx hb hr hlk (z_X2_isBetween ..) rfl dX2_isGrade_6
theorem kS_X2_isGrade {R : Room} {s : State} {args : Array Value} {own : String} {idx : Nat} {c0 : Cond} (hts : ∀ w ∈ c0 :: W0, w.before args s = true) (hl : Cond.methodLink own idx yX2_isGrade ∈ W0) (hR : rm_X2_isGrade.frames + 1 ≤ R.frames ∧ 8 + (1 + 11) + rm_X2_isGrade.locals ≤ R.locals) : CallB R s args own idx yX2_isGrade cX2_isGrade 1 (some .boolean) (Cond.code yX2_isGrade cX2_isGrade 1 (some .boolean) :: W0) rm_X2_isGrade 0 0 1 ∧ (Cond.static yX2_isGrade).before args s = true := va_cwS 1 hts (gdS hl mst_yX2_isGrade mini_X2 mc_yX2_isGrade) rfl rfl rfl (by decide +kernel) hR

theorem z_X2_isGrade {x : Int32} : f_X2_isGrade x = 0 ∨ f_X2_isGrade x = 1 := by
  unfold f_X2_isGrade
  (repeat' split) <;> first | exact Or.inl rfl | exact Or.inr rfl | exact z_X2_isBetween

/-! X2.hasTitle -/
def f_X2_hasTitle (σ : Nat → Nat → Int32) (x : Int32) : Int32 := (f_X2_isBetween x 0 ((σ 1 0) - 1))
abbrev rm_X2_hasTitle : Room := { frames := 1, cells := 0, slots := 0, locals := 22 }
set_option maxRecDepth 100000 in
theorem c_X2_hasTitle (l : Launch) (D : va_G) (cI : ClassId) (o : Nat) (a : Nat → Nat) (σ : Nat → Nat → Int32) (x : Int32) :
    Met l yX2_hasTitle (Cond.code yX2_hasTitle cX2_hasTitle 2 (some .boolean) :: W0) rm_X2_hasTitle (va_Pc [.ref o, .int x] (shP D cI o a σ)) (vp_Si (fun r => r = f_X2_hasTitle σ x)) 0 0 (fun _ => False) := by
  refine st_gen (cc := cX2_hasTitle) (maxL := 2) (ret := some .boolean) (own := RX2) (by decide) rfl (Nat.le_of_ble_eq_true rfl) ?_
  intro p e s m below meth c ls C hPre hl
  obtain ⟨hx, hb, hr, hml, hown, hts, hlk⟩ := C
  obtain ⟨hP, hK⟩ := hPre
  have hl : lv_has ls 2 [(0, .ref (o)), (1, .int (x))] := hl
  refine lv_iload_n hx hb dX2_hasTitle_0 rfl (lv_at hl 1 rfl) ?_
  refine lv_iconst (v := 0) hx hb dX2_hasTitle_1 (by decide) ?_
  refine lv_aload_n hx hb dX2_hasTitle_2 rfl (lv_at hl 0 rfl) ?_
  refine sh_g1 hx hb hts hown hK hP (v := σ 1 0) rfl dX2_hasTitle_3 ?_
  refine lv_iconst (v := 1) hx hb dX2_hasTitle_6 (by decide) ?_
  refine lv_isub hx hb dX2_hasTitle_7 ?_
  refine cl_S (rest := []) hx hb hml hown hts (c_X2_isBetween l x 0 ((σ 1 0) - 1)) (kS_X2_isBetween hts ml_X2_93 ⟨(Nat.le_of_ble_eq_true rfl), (Nat.le_of_ble_eq_true rfl)⟩) rfl hl.1 rfl (Nat.le_of_ble_eq_true rfl) dX2_hasTitle_8 (Nat.zero_le _) (Nat.zero_le _) ?_
  exact fin_z hx hb hr hlk (z_X2_isBetween ..) rfl dX2_hasTitle_11
theorem kV_X2_hasTitle {R : Room} {s : State} {args : Array Value} {own : String} {idx : Nat} {c0 : Cond} (hts : ∀ w ∈ c0 :: W0, w.before args s = true) (hl : Cond.methodLink own idx yX2_hasTitle ∈ W0) (hR : rm_X2_hasTitle.frames + 1 ≤ R.frames ∧ 8 + (2 + 11) + rm_X2_hasTitle.locals ≤ R.locals) : CallW R s args own RX2 idx yX2_hasTitle cX2_hasTitle 2 (some .boolean) (Cond.code yX2_hasTitle cX2_hasTitle 2 (some .boolean) :: W0) rm_X2_hasTitle 0 0 1 := cwV 1 hts (gdV hl mi_yX2_hasTitle ms_yX2_hasTitle mini_X2 mc_yX2_hasTitle) rfl rfl rfl (by decide +kernel) hR

theorem z_X2_hasTitle {σ : Nat → Nat → Int32} {x : Int32} : f_X2_hasTitle σ x = 0 ∨ f_X2_hasTitle σ x = 1 := by
  unfold f_X2_hasTitle
  (repeat' split) <;> first | exact Or.inl rfl | exact Or.inr rfl | exact z_X2_isBetween

theorem hasTitle_ok {σ : Nat → Nat → Int32} (hok : okS σ) {x : Int32} (h : ¬ f_X2_hasTitle σ x = 0) : tn x < nT σ ∧ x = nI (tn x) := by
  have q := btw_nz (x := x) (y := 0) (z := σ 1 0 - 1) h
  have b := okS_b hok
  rw [okS_1 hok] at q
  exact ⟨tn_lt q.1 q.2 (by omega), tn_pos q.1⟩
theorem hasTitle_no {σ : Nat → Nat → Int32} (hok : okS σ) {x : Int32} (h : f_X2_hasTitle σ x = 0) : ¬ ∃ k, k < nT σ ∧ x = nI k := by
  intro ⟨k, hk, e⟩
  have b := okS_b hok
  refine btw_z (x := x) (y := 0) (z := σ 1 0 - 1) h ⟨?_, ?_⟩
  · rw [e]; exact nI_pos' (by omega)
  · rw [okS_1 hok, e]
    obtain ⟨j, hj⟩ : ∃ j, nT σ = j + 1 := ⟨nT σ - 1, by omega⟩
    rw [hj, nI_pred]
    exact nI_le (by omega) (by omega)

/-! X2.hasCourse -/
def f_X2_hasCourse (σ : Nat → Nat → Int32) (x : Int32) : Int32 := (f_X2_isBetween x 0 ((σ 2 0) - 1))
abbrev rm_X2_hasCourse : Room := { frames := 1, cells := 0, slots := 0, locals := 22 }
set_option maxRecDepth 100000 in
theorem c_X2_hasCourse (l : Launch) (D : va_G) (cI : ClassId) (o : Nat) (a : Nat → Nat) (σ : Nat → Nat → Int32) (x : Int32) :
    Met l yX2_hasCourse (Cond.code yX2_hasCourse cX2_hasCourse 2 (some .boolean) :: W0) rm_X2_hasCourse (va_Pc [.ref o, .int x] (shP D cI o a σ)) (vp_Si (fun r => r = f_X2_hasCourse σ x)) 0 0 (fun _ => False) := by
  refine st_gen (cc := cX2_hasCourse) (maxL := 2) (ret := some .boolean) (own := RX2) (by decide) rfl (Nat.le_of_ble_eq_true rfl) ?_
  intro p e s m below meth c ls C hPre hl
  obtain ⟨hx, hb, hr, hml, hown, hts, hlk⟩ := C
  obtain ⟨hP, hK⟩ := hPre
  have hl : lv_has ls 2 [(0, .ref (o)), (1, .int (x))] := hl
  refine lv_iload_n hx hb dX2_hasCourse_0 rfl (lv_at hl 1 rfl) ?_
  refine lv_iconst (v := 0) hx hb dX2_hasCourse_1 (by decide) ?_
  refine lv_aload_n hx hb dX2_hasCourse_2 rfl (lv_at hl 0 rfl) ?_
  refine sh_g2 hx hb hts hown hK hP (v := σ 2 0) rfl dX2_hasCourse_3 ?_
  refine lv_iconst (v := 1) hx hb dX2_hasCourse_6 (by decide) ?_
  refine lv_isub hx hb dX2_hasCourse_7 ?_
  refine cl_S (rest := []) hx hb hml hown hts (c_X2_isBetween l x 0 ((σ 2 0) - 1)) (kS_X2_isBetween hts ml_X2_93 ⟨(Nat.le_of_ble_eq_true rfl), (Nat.le_of_ble_eq_true rfl)⟩) rfl hl.1 rfl (Nat.le_of_ble_eq_true rfl) dX2_hasCourse_8 (Nat.zero_le _) (Nat.zero_le _) ?_
  exact fin_z hx hb hr hlk (z_X2_isBetween ..) rfl dX2_hasCourse_11
theorem kV_X2_hasCourse {R : Room} {s : State} {args : Array Value} {own : String} {idx : Nat} {c0 : Cond} (hts : ∀ w ∈ c0 :: W0, w.before args s = true) (hl : Cond.methodLink own idx yX2_hasCourse ∈ W0) (hR : rm_X2_hasCourse.frames + 1 ≤ R.frames ∧ 8 + (2 + 11) + rm_X2_hasCourse.locals ≤ R.locals) : CallW R s args own RX2 idx yX2_hasCourse cX2_hasCourse 2 (some .boolean) (Cond.code yX2_hasCourse cX2_hasCourse 2 (some .boolean) :: W0) rm_X2_hasCourse 0 0 1 := cwV 1 hts (gdV hl mi_yX2_hasCourse ms_yX2_hasCourse mini_X2 mc_yX2_hasCourse) rfl rfl rfl (by decide +kernel) hR

theorem z_X2_hasCourse {σ : Nat → Nat → Int32} {x : Int32} : f_X2_hasCourse σ x = 0 ∨ f_X2_hasCourse σ x = 1 := by
  unfold f_X2_hasCourse
  (repeat' split) <;> first | exact Or.inl rfl | exact Or.inr rfl | exact z_X2_isBetween

theorem hasCourse_ok {σ : Nat → Nat → Int32} (hok : okS σ) {x : Int32} (h : ¬ f_X2_hasCourse σ x = 0) : tn x < nC σ ∧ x = nI (tn x) := by
  have q := btw_nz (x := x) (y := 0) (z := σ 2 0 - 1) h
  have b := okS_b hok
  rw [okS_2 hok] at q
  exact ⟨tn_lt q.1 q.2 (by omega), tn_pos q.1⟩
theorem hasCourse_no {σ : Nat → Nat → Int32} (hok : okS σ) {x : Int32} (h : f_X2_hasCourse σ x = 0) : ¬ ∃ k, k < nC σ ∧ x = nI k := by
  intro ⟨k, hk, e⟩
  have b := okS_b hok
  refine btw_z (x := x) (y := 0) (z := σ 2 0 - 1) h ⟨?_, ?_⟩
  · rw [e]; exact nI_pos' (by omega)
  · rw [okS_2 hok, e]
    obtain ⟨j, hj⟩ : ∃ j, nC σ = j + 1 := ⟨nC σ - 1, by omega⟩
    rw [hj, nI_pred]
    exact nI_le (by omega) (by omega)

/-! X2.hasCopy -/
def f_X2_hasCopy (σ : Nat → Nat → Int32) (x : Int32) : Int32 := (f_X2_isBetween x 0 ((σ 3 0) - 1))
abbrev rm_X2_hasCopy : Room := { frames := 1, cells := 0, slots := 0, locals := 22 }
set_option maxRecDepth 100000 in
theorem c_X2_hasCopy (l : Launch) (D : va_G) (cI : ClassId) (o : Nat) (a : Nat → Nat) (σ : Nat → Nat → Int32) (x : Int32) :
    Met l yX2_hasCopy (Cond.code yX2_hasCopy cX2_hasCopy 2 (some .boolean) :: W0) rm_X2_hasCopy (va_Pc [.ref o, .int x] (shP D cI o a σ)) (vp_Si (fun r => r = f_X2_hasCopy σ x)) 0 0 (fun _ => False) := by
  refine st_gen (cc := cX2_hasCopy) (maxL := 2) (ret := some .boolean) (own := RX2) (by decide) rfl (Nat.le_of_ble_eq_true rfl) ?_
  intro p e s m below meth c ls C hPre hl
  obtain ⟨hx, hb, hr, hml, hown, hts, hlk⟩ := C
  obtain ⟨hP, hK⟩ := hPre
  have hl : lv_has ls 2 [(0, .ref (o)), (1, .int (x))] := hl
  refine lv_iload_n hx hb dX2_hasCopy_0 rfl (lv_at hl 1 rfl) ?_
  refine lv_iconst (v := 0) hx hb dX2_hasCopy_1 (by decide) ?_
  refine lv_aload_n hx hb dX2_hasCopy_2 rfl (lv_at hl 0 rfl) ?_
  refine sh_g3 hx hb hts hown hK hP (v := σ 3 0) rfl dX2_hasCopy_3 ?_
  refine lv_iconst (v := 1) hx hb dX2_hasCopy_6 (by decide) ?_
  refine lv_isub hx hb dX2_hasCopy_7 ?_
  refine cl_S (rest := []) hx hb hml hown hts (c_X2_isBetween l x 0 ((σ 3 0) - 1)) (kS_X2_isBetween hts ml_X2_93 ⟨(Nat.le_of_ble_eq_true rfl), (Nat.le_of_ble_eq_true rfl)⟩) rfl hl.1 rfl (Nat.le_of_ble_eq_true rfl) dX2_hasCopy_8 (Nat.zero_le _) (Nat.zero_le _) ?_
  exact fin_z hx hb hr hlk (z_X2_isBetween ..) rfl dX2_hasCopy_11
theorem kV_X2_hasCopy {R : Room} {s : State} {args : Array Value} {own : String} {idx : Nat} {c0 : Cond} (hts : ∀ w ∈ c0 :: W0, w.before args s = true) (hl : Cond.methodLink own idx yX2_hasCopy ∈ W0) (hR : rm_X2_hasCopy.frames + 1 ≤ R.frames ∧ 8 + (2 + 11) + rm_X2_hasCopy.locals ≤ R.locals) : CallW R s args own RX2 idx yX2_hasCopy cX2_hasCopy 2 (some .boolean) (Cond.code yX2_hasCopy cX2_hasCopy 2 (some .boolean) :: W0) rm_X2_hasCopy 0 0 1 := cwV 1 hts (gdV hl mi_yX2_hasCopy ms_yX2_hasCopy mini_X2 mc_yX2_hasCopy) rfl rfl rfl (by decide +kernel) hR

theorem z_X2_hasCopy {σ : Nat → Nat → Int32} {x : Int32} : f_X2_hasCopy σ x = 0 ∨ f_X2_hasCopy σ x = 1 := by
  unfold f_X2_hasCopy
  (repeat' split) <;> first | exact Or.inl rfl | exact Or.inr rfl | exact z_X2_isBetween

theorem hasCopy_ok {σ : Nat → Nat → Int32} (hok : okS σ) {x : Int32} (h : ¬ f_X2_hasCopy σ x = 0) : tn x < nN σ ∧ x = nI (tn x) := by
  have q := btw_nz (x := x) (y := 0) (z := σ 3 0 - 1) h
  have b := okS_b hok
  rw [okS_3 hok] at q
  exact ⟨tn_lt q.1 q.2 (by omega), tn_pos q.1⟩
theorem hasCopy_no {σ : Nat → Nat → Int32} (hok : okS σ) {x : Int32} (h : f_X2_hasCopy σ x = 0) : ¬ ∃ k, k < nN σ ∧ x = nI k := by
  intro ⟨k, hk, e⟩
  have b := okS_b hok
  refine btw_z (x := x) (y := 0) (z := σ 3 0 - 1) h ⟨?_, ?_⟩
  · rw [e]; exact nI_pos' (by omega)
  · rw [okS_3 hok, e]
    obtain ⟨j, hj⟩ : ∃ j, nN σ = j + 1 := ⟨nN σ - 1, by omega⟩
    rw [hj, nI_pred]
    exact nI_le (by omega) (by omega)

/-! X2.takes -/
def f_X2_takes (σ : Nat → Nat → Int32) (jc : Nat) (y : Int32) (z : Int32) : Int32 := (if (σ 7 jc) = y then (if z < (σ 8 jc) then 0 else 1) else 0)
abbrev rm_X2_takes : Room := { frames := 0, cells := 0, slots := 0, locals := 0 }
set_option maxRecDepth 100000 in
theorem c_X2_takes (l : Launch) (D : va_G) (cI : ClassId) (o : Nat) (a : Nat → Nat) (σ : Nat → Nat → Int32) (x : Int32) (jc : Nat) (hx : x = nI jc) (y : Int32) (z : Int32) (hok : okS σ) (hjc : jc < nC σ) :
    Met l yX2_takes (Cond.code yX2_takes cX2_takes 4 (some .boolean) :: W0) rm_X2_takes (va_Pc [.ref o, .int x, .int y, .int z] (shP D cI o a σ)) (vp_Si (fun r => r = f_X2_takes σ jc y z)) 0 0 (fun _ => False) := by
  subst hx
  refine st_gen (cc := cX2_takes) (maxL := 4) (ret := some .boolean) (own := RX2) (by decide) rfl (Nat.le_of_ble_eq_true rfl) ?_
  intro p e s m below meth c ls C hPre hl
  obtain ⟨hx, hb, hr, hml, hown, hts, hlk⟩ := C
  obtain ⟨hP, hK⟩ := hPre
  have hl : lv_has ls 4 [(0, .ref (o)), (1, .int (nI jc)), (2, .int (y)), (3, .int (z))] := hl
  obtain ⟨hT6, hC6, hN6⟩ := okS_b hok
  refine lv_aload_n hx hb dX2_takes_0 rfl (lv_at hl 0 rfl) ?_
  refine sh_g7 hx hb hts hown hK hP dX2_takes_1 ?_
  refine lv_iload_n hx hb dX2_takes_4 rfl (lv_at hl 1 rfl) ?_
  refine sh_r7 hx hb hK hP (jc) rfl (by omega) (v := σ 7 jc) rfl dX2_takes_5 ?_
  refine lv_iload_n hx hb dX2_takes_6 rfl (lv_at hl 2 rfl) ?_
  refine lv_icmp_ne (tgt := 24) hx hb dX2_takes_7 (by decide) (fun c_7 => ?_) (fun c_7 => ?_)
  · refine lv_iconst (v := 0) hx hb dX2_takes_24 (by decide) ?_
    exact fin_z hx hb hr hlk (Or.inl rfl) (br_n c_7 rfl) dX2_takes_25
  refine lv_iload_n hx hb dX2_takes_10 rfl (lv_at hl 3 rfl) ?_
  refine lv_aload_n hx hb dX2_takes_11 rfl (lv_at hl 0 rfl) ?_
  refine sh_g8 hx hb hts hown hK hP dX2_takes_12 ?_
  refine lv_iload_n hx hb dX2_takes_15 rfl (lv_at hl 1 rfl) ?_
  refine sh_r8 hx hb hK hP (jc) rfl (by omega) (v := σ 8 jc) rfl dX2_takes_16 ?_
  refine lv_icmp_lt (tgt := 24) hx hb dX2_takes_17 (by decide) (fun c_17 => ?_) (fun c_17 => ?_)
  · refine lv_iconst (v := 0) hx hb dX2_takes_24 (by decide) ?_
    exact fin_z hx hb hr hlk (Or.inl rfl) (br_p c_7 (br_p c_17 rfl)) dX2_takes_25
  refine lv_iconst (v := 1) hx hb dX2_takes_20 (by decide) ?_
  refine lv_goto (tgt := 25) hx hb dX2_takes_21 (by decide) ?_
  exact fin_z hx hb hr hlk (Or.inr rfl) (br_p c_7 (br_n c_17 rfl)) dX2_takes_25
theorem kV_X2_takes {R : Room} {s : State} {args : Array Value} {own : String} {idx : Nat} {c0 : Cond} (hts : ∀ w ∈ c0 :: W0, w.before args s = true) (hl : Cond.methodLink own idx yX2_takes ∈ W0) (hR : rm_X2_takes.frames + 1 ≤ R.frames ∧ 8 + (4 + 11) + rm_X2_takes.locals ≤ R.locals) : CallW R s args own RX2 idx yX2_takes cX2_takes 4 (some .boolean) (Cond.code yX2_takes cX2_takes 4 (some .boolean) :: W0) rm_X2_takes 0 0 3 := cwV 3 hts (gdV hl mi_yX2_takes ms_yX2_takes mini_X2 mc_yX2_takes) rfl rfl rfl (by decide +kernel) hR

theorem z_X2_takes {σ : Nat → Nat → Int32} {jc : Nat} {y : Int32} {z : Int32} : f_X2_takes σ jc y z = 0 ∨ f_X2_takes σ jc y z = 1 := by
  unfold f_X2_takes
  (repeat' split) <;> first | exact Or.inl rfl | exact Or.inr rfl

/-! X2.isOwned -/
def f_X2_isOwned (σ : Nat → Nat → Int32) (k : Nat) : Int32 := (if (σ 13 k) = 0 then 1 else (if (σ 13 k) = 1 then 1 else (if (σ 13 k) = 4 then 1 else 0)))
abbrev rm_X2_isOwned : Room := { frames := 0, cells := 0, slots := 0, locals := 0 }
set_option maxRecDepth 100000 in
theorem c_X2_isOwned (l : Launch) (D : va_G) (cI : ClassId) (o : Nat) (a : Nat → Nat) (σ : Nat → Nat → Int32) (x : Int32) (k : Nat) (hx : x = nI k) (hok : okS σ) (hk : k < nN σ) :
    Met l yX2_isOwned (Cond.code yX2_isOwned cX2_isOwned 2 (some .boolean) :: W0) rm_X2_isOwned (va_Pc [.ref o, .int x] (shP D cI o a σ)) (vp_Si (fun r => r = f_X2_isOwned σ k)) 0 0 (fun _ => False) := by
  subst hx
  refine st_gen (cc := cX2_isOwned) (maxL := 2) (ret := some .boolean) (own := RX2) (by decide) rfl (Nat.le_of_ble_eq_true rfl) ?_
  intro p e s m below meth c ls C hPre hl
  obtain ⟨hx, hb, hr, hml, hown, hts, hlk⟩ := C
  obtain ⟨hP, hK⟩ := hPre
  have hl : lv_has ls 2 [(0, .ref (o)), (1, .int (nI k))] := hl
  obtain ⟨hT6, hC6, hN6⟩ := okS_b hok
  refine lv_aload_n hx hb dX2_isOwned_0 rfl (lv_at hl 0 rfl) ?_
  refine sh_g13 hx hb hts hown hK hP dX2_isOwned_1 ?_
  refine lv_iload_n hx hb dX2_isOwned_4 rfl (lv_at hl 1 rfl) ?_
  refine sh_r13 hx hb hK hP (k) rfl (by omega) (v := σ 13 k) rfl dX2_isOwned_5 ?_
  refine lv_if_eq (tgt := 29) hx hb dX2_isOwned_6 (by decide) (fun c_6 => ?_) (fun c_6 => ?_)
  · refine lv_iconst (v := 1) hx hb dX2_isOwned_29 (by decide) ?_
    refine lv_goto (tgt := 34) hx hb dX2_isOwned_30 (by decide) ?_
    exact fin_z hx hb hr hlk (Or.inr rfl) (br_p c_6 rfl) dX2_isOwned_34
  refine lv_aload_n hx hb dX2_isOwned_9 rfl (lv_at hl 0 rfl) ?_
  refine sh_g13 hx hb hts hown hK hP dX2_isOwned_10 ?_
  refine lv_iload_n hx hb dX2_isOwned_13 rfl (lv_at hl 1 rfl) ?_
  refine sh_r13 hx hb hK hP (k) rfl (by omega) (v := σ 13 k) rfl dX2_isOwned_14 ?_
  refine lv_iconst (v := 1) hx hb dX2_isOwned_15 (by decide) ?_
  refine lv_icmp_eq (tgt := 29) hx hb dX2_isOwned_16 (by decide) (fun c_16 => ?_) (fun c_16 => ?_)
  · refine lv_iconst (v := 1) hx hb dX2_isOwned_29 (by decide) ?_
    refine lv_goto (tgt := 34) hx hb dX2_isOwned_30 (by decide) ?_
    exact fin_z hx hb hr hlk (Or.inr rfl) (br_n c_6 (br_p c_16 rfl)) dX2_isOwned_34
  refine lv_aload_n hx hb dX2_isOwned_19 rfl (lv_at hl 0 rfl) ?_
  refine sh_g13 hx hb hts hown hK hP dX2_isOwned_20 ?_
  refine lv_iload_n hx hb dX2_isOwned_23 rfl (lv_at hl 1 rfl) ?_
  refine sh_r13 hx hb hK hP (k) rfl (by omega) (v := σ 13 k) rfl dX2_isOwned_24 ?_
  refine lv_iconst (v := 4) hx hb dX2_isOwned_25 (by decide) ?_
  refine lv_icmp_ne (tgt := 33) hx hb dX2_isOwned_26 (by decide) (fun c_26 => ?_) (fun c_26 => ?_)
  · refine lv_iconst (v := 0) hx hb dX2_isOwned_33 (by decide) ?_
    exact fin_z hx hb hr hlk (Or.inl rfl) (br_n c_6 (br_n c_16 (br_n c_26 rfl))) dX2_isOwned_34
  refine lv_iconst (v := 1) hx hb dX2_isOwned_29 (by decide) ?_
  refine lv_goto (tgt := 34) hx hb dX2_isOwned_30 (by decide) ?_
  exact fin_z hx hb hr hlk (Or.inr rfl) (br_n c_6 (br_n c_16 (br_p c_26 rfl))) dX2_isOwned_34
theorem kV_X2_isOwned {R : Room} {s : State} {args : Array Value} {own : String} {idx : Nat} {c0 : Cond} (hts : ∀ w ∈ c0 :: W0, w.before args s = true) (hl : Cond.methodLink own idx yX2_isOwned ∈ W0) (hR : rm_X2_isOwned.frames + 1 ≤ R.frames ∧ 8 + (2 + 11) + rm_X2_isOwned.locals ≤ R.locals) : CallW R s args own RX2 idx yX2_isOwned cX2_isOwned 2 (some .boolean) (Cond.code yX2_isOwned cX2_isOwned 2 (some .boolean) :: W0) rm_X2_isOwned 0 0 1 := cwV 1 hts (gdV hl mi_yX2_isOwned ms_yX2_isOwned mini_X2 mc_yX2_isOwned) rfl rfl rfl (by decide +kernel) hR

theorem z_X2_isOwned {σ : Nat → Nat → Int32} {k : Nat} : f_X2_isOwned σ k = 0 ∨ f_X2_isOwned σ k = 1 := by
  unfold f_X2_isOwned
  (repeat' split) <;> first | exact Or.inl rfl | exact Or.inr rfl

/-! X2.copiesIn -/
def g_X2_copiesIn_4 (σ : Nat → Nat → Int32) (x : Int32) : Nat → (Nat) → (Int32) → Int32
  | 0, k, x2 => x2
  | fu + 1, k, x2 => (if nN σ ≤ k then x2 else (if (σ 13 k) = x then g_X2_copiesIn_4 σ x fu (k + 1) (x2 + 1) else g_X2_copiesIn_4 σ x fu (k + 1) x2))
def f_X2_copiesIn (σ : Nat → Nat → Int32) (x : Int32) : Int32 := (g_X2_copiesIn_4 σ x (nN σ + 1) 0 0)
abbrev rm_X2_copiesIn : Room := { frames := 0, cells := 0, slots := 0, locals := 0 }
set_option maxRecDepth 100000 in
theorem c_X2_copiesIn (l : Launch) (D : va_G) (cI : ClassId) (o : Nat) (a : Nat → Nat) (σ : Nat → Nat → Int32) (x : Int32) (hok : okS σ) :
    Met l yX2_copiesIn (Cond.code yX2_copiesIn cX2_copiesIn 4 (some .int) :: W0) rm_X2_copiesIn (va_Pc [.ref o, .int x] (shP D cI o a σ)) (vp_Si (fun r => r = f_X2_copiesIn σ x)) 0 0 (fun _ => False) := by
  refine st_gen (cc := cX2_copiesIn) (maxL := 4) (ret := some .int) (own := RX2) (by decide) rfl (Nat.le_of_ble_eq_true rfl) ?_
  intro p e s m below meth c ls C hPre hl
  obtain ⟨hx, hb, hr, hml, hown, hts, hlk⟩ := C
  obtain ⟨hP, hK⟩ := hPre
  have hl : lv_has ls 4 [(0, .ref (o)), (1, .int (x))] := hl
  obtain ⟨hT6, hC6, hN6⟩ := okS_b hok
  refine lv_iconst (v := 0) hx hb dX2_copiesIn_0 (by decide) ?_
  refine lv_istore_n (lv' := [(2, .int (0)), (0, .ref (o)), (1, .int (x))]) hx hb dX2_copiesIn_1 rfl hl (by decide) rfl (fun ls hl => ?_)
  refine lv_iconst (v := 0) hx hb dX2_copiesIn_2 (by decide) ?_
  refine lv_istore_n (lv' := [(3, .int (0)), (2, .int (0)), (0, .ref (o)), (1, .int (x))]) hx hb dX2_copiesIn_3 rfl hl (by decide) rfl (fun ls hl => ?_)
  have K_31 : ∀ ls, lv_has ls 4 [(0, .ref (o)), (1, .int (x)), (2, .int ((g_X2_copiesIn_4 σ x (nN σ + 1) 0 0)))] → W p l e rm_X2_copiesIn s m (([.ref (o), .int (x)] : List Value).toArray) below meth c s.heap [] 0 0 (MQ below (vp_Si (fun r => r = f_X2_copiesIn σ x)) ([.ref (o), .int (x)] : List Value).toArray s 0 0 (fun _ => False)) (F0 m 31 ls []) := by
    intro ls hl
    refine lv_iload_n hx hb dX2_copiesIn_31 rfl (lv_at hl 2 rfl) ?_
    exact fin_i hx hb hr hlk rfl dX2_copiesIn_32
  have L_4 : ∀ (fu : Nat) (k : Nat) (x2 : Int32), nN σ - k < fu → k ≤ nN σ → g_X2_copiesIn_4 σ x fu k x2 = g_X2_copiesIn_4 σ x (nN σ + 1) 0 0 → ∀ ls, lv_has ls 4 [(0, .ref (o)), (1, .int (x)), (3, .int (nI k)), (2, .int (x2))] → W p l e rm_X2_copiesIn s m (([.ref (o), .int (x)] : List Value).toArray) below meth c s.heap [] 0 0 (MQ below (vp_Si (fun r => r = f_X2_copiesIn σ x)) ([.ref (o), .int (x)] : List Value).toArray s 0 0 (fun _ => False)) (F0 m 4 ls []) := by
    intro fu
    induction fu with
    | zero => intro k x2 hm; exact absurd hm (Nat.not_lt_zero _)
    | succ fu ih =>
      intro k x2 hm hkN hg_4 ls hl
      refine lv_iload_n hx hb dX2_copiesIn_4 rfl (lv_at hl 2 rfl) ?_
      refine lv_aload_n hx hb dX2_copiesIn_5 rfl (lv_at hl 0 rfl) ?_
      refine sh_g3 hx hb hts hown hK hP (v := σ 3 0) rfl dX2_copiesIn_6 ?_
      refine lv_icmp_geN (k) (nN σ) hx hb rfl (okS_3 (σ := σ) (by with_reducible assumption)) (by omega) (by omega) (tgt := 31) dX2_copiesIn_9 (by decide) (fun c_9 => ?_) (fun c_9 => ?_)
      · have ex : x2 = g_X2_copiesIn_4 σ x (nN σ + 1) 0 0 := ((br_p c_9 rfl) : x2 = g_X2_copiesIn_4 σ x (fu + 1) k x2).trans hg_4
        exact K_31 ls (by rw [← ex]; exact lv_sub hl [0, 1, 3] rfl)
      refine lv_aload_n hx hb dX2_copiesIn_12 rfl (lv_at hl 0 rfl) ?_
      refine sh_g13 hx hb hts hown hK hP dX2_copiesIn_13 ?_
      refine lv_iload_n hx hb dX2_copiesIn_16 rfl (lv_at hl 2 rfl) ?_
      refine sh_r13 hx hb hK hP (k) rfl (by omega) (v := σ 13 k) rfl dX2_copiesIn_17 ?_
      refine lv_iload_n hx hb dX2_copiesIn_18 rfl (lv_at hl 1 rfl) ?_
      refine lv_icmp_ne (tgt := 25) hx hb dX2_copiesIn_19 (by decide) (fun c_19 => ?_) (fun c_19 => ?_)
      · refine lv_iinc (v := nI (k + 1)) (lv' := [(3, .int (nI (k + 1))), (0, .ref (o)), (1, .int (x)), (2, .int (x2))]) hx hb dX2_copiesIn_25 hl (k := 2) rfl (nI_c1 _) (by decide) rfl (fun ls hl => ?_)
        refine lv_goto (tgt := 4) hx hb dX2_copiesIn_28 (by decide) ?_
        exact ih (k + 1) x2 (by omega) (by omega) (((br_n c_9 (br_n c_19 rfl)) : g_X2_copiesIn_4 σ x fu (k + 1) x2 = g_X2_copiesIn_4 σ x (fu + 1) k x2).trans hg_4) ls (lv_sub hl [1, 2, 0, 3] rfl)
      refine lv_iinc (v := x2 + 1) (lv' := [(2, .int (x2 + 1)), (0, .ref (o)), (1, .int (x)), (3, .int (nI k))]) hx hb dX2_copiesIn_22 hl (k := 3) rfl rfl (by decide) rfl (fun ls hl => ?_)
      refine lv_iinc (v := nI (k + 1)) (lv' := [(3, .int (nI (k + 1))), (2, .int (x2 + 1)), (0, .ref (o)), (1, .int (x))]) hx hb dX2_copiesIn_25 hl (k := 3) rfl (nI_c1 _) (by decide) rfl (fun ls hl => ?_)
      refine lv_goto (tgt := 4) hx hb dX2_copiesIn_28 (by decide) ?_
      exact ih (k + 1) (x2 + 1) (by omega) (by omega) (((br_n c_9 (br_p c_19 rfl)) : g_X2_copiesIn_4 σ x fu (k + 1) (x2 + 1) = g_X2_copiesIn_4 σ x (fu + 1) k x2).trans hg_4) ls (lv_sub hl [2, 3, 0, 1] rfl)
  exact L_4 (nN σ + 1) 0 0 (by omega) (by omega) rfl ls (lv_sub hl [2, 3, 0, 1] rfl)
theorem kV_X2_copiesIn {R : Room} {s : State} {args : Array Value} {own : String} {idx : Nat} {c0 : Cond} (hts : ∀ w ∈ c0 :: W0, w.before args s = true) (hl : Cond.methodLink own idx yX2_copiesIn ∈ W0) (hR : rm_X2_copiesIn.frames + 1 ≤ R.frames ∧ 8 + (4 + 11) + rm_X2_copiesIn.locals ≤ R.locals) : CallW R s args own RX2 idx yX2_copiesIn cX2_copiesIn 4 (some .int) (Cond.code yX2_copiesIn cX2_copiesIn 4 (some .int) :: W0) rm_X2_copiesIn 0 0 1 := cwV 1 hts (gdV hl mi_yX2_copiesIn ms_yX2_copiesIn mini_X2 mc_yX2_copiesIn) rfl rfl rfl (by decide +kernel) hR

/-! X2.copiesOf -/
def g_X2_copiesOf_4 (σ : Nat → Nat → Int32) (x : Int32) : Nat → (Nat) → (Int32) → Int32
  | 0, k, x2 => x2
  | fu + 1, k, x2 => (if nN σ ≤ k then x2 else (if (σ 10 k) = x then g_X2_copiesOf_4 σ x fu (k + 1) (x2 + 1) else g_X2_copiesOf_4 σ x fu (k + 1) x2))
def f_X2_copiesOf (σ : Nat → Nat → Int32) (x : Int32) : Int32 := (g_X2_copiesOf_4 σ x (nN σ + 1) 0 0)
abbrev rm_X2_copiesOf : Room := { frames := 0, cells := 0, slots := 0, locals := 0 }
set_option maxRecDepth 100000 in
theorem c_X2_copiesOf (l : Launch) (D : va_G) (cI : ClassId) (o : Nat) (a : Nat → Nat) (σ : Nat → Nat → Int32) (x : Int32) (hok : okS σ) :
    Met l yX2_copiesOf (Cond.code yX2_copiesOf cX2_copiesOf 4 (some .int) :: W0) rm_X2_copiesOf (va_Pc [.ref o, .int x] (shP D cI o a σ)) (vp_Si (fun r => r = f_X2_copiesOf σ x)) 0 0 (fun _ => False) := by
  refine st_gen (cc := cX2_copiesOf) (maxL := 4) (ret := some .int) (own := RX2) (by decide) rfl (Nat.le_of_ble_eq_true rfl) ?_
  intro p e s m below meth c ls C hPre hl
  obtain ⟨hx, hb, hr, hml, hown, hts, hlk⟩ := C
  obtain ⟨hP, hK⟩ := hPre
  have hl : lv_has ls 4 [(0, .ref (o)), (1, .int (x))] := hl
  obtain ⟨hT6, hC6, hN6⟩ := okS_b hok
  refine lv_iconst (v := 0) hx hb dX2_copiesOf_0 (by decide) ?_
  refine lv_istore_n (lv' := [(2, .int (0)), (0, .ref (o)), (1, .int (x))]) hx hb dX2_copiesOf_1 rfl hl (by decide) rfl (fun ls hl => ?_)
  refine lv_iconst (v := 0) hx hb dX2_copiesOf_2 (by decide) ?_
  refine lv_istore_n (lv' := [(3, .int (0)), (2, .int (0)), (0, .ref (o)), (1, .int (x))]) hx hb dX2_copiesOf_3 rfl hl (by decide) rfl (fun ls hl => ?_)
  have K_31 : ∀ ls, lv_has ls 4 [(0, .ref (o)), (1, .int (x)), (2, .int ((g_X2_copiesOf_4 σ x (nN σ + 1) 0 0)))] → W p l e rm_X2_copiesOf s m (([.ref (o), .int (x)] : List Value).toArray) below meth c s.heap [] 0 0 (MQ below (vp_Si (fun r => r = f_X2_copiesOf σ x)) ([.ref (o), .int (x)] : List Value).toArray s 0 0 (fun _ => False)) (F0 m 31 ls []) := by
    intro ls hl
    refine lv_iload_n hx hb dX2_copiesOf_31 rfl (lv_at hl 2 rfl) ?_
    exact fin_i hx hb hr hlk rfl dX2_copiesOf_32
  have L_4 : ∀ (fu : Nat) (k : Nat) (x2 : Int32), nN σ - k < fu → k ≤ nN σ → g_X2_copiesOf_4 σ x fu k x2 = g_X2_copiesOf_4 σ x (nN σ + 1) 0 0 → ∀ ls, lv_has ls 4 [(0, .ref (o)), (1, .int (x)), (3, .int (nI k)), (2, .int (x2))] → W p l e rm_X2_copiesOf s m (([.ref (o), .int (x)] : List Value).toArray) below meth c s.heap [] 0 0 (MQ below (vp_Si (fun r => r = f_X2_copiesOf σ x)) ([.ref (o), .int (x)] : List Value).toArray s 0 0 (fun _ => False)) (F0 m 4 ls []) := by
    intro fu
    induction fu with
    | zero => intro k x2 hm; exact absurd hm (Nat.not_lt_zero _)
    | succ fu ih =>
      intro k x2 hm hkN hg_4 ls hl
      refine lv_iload_n hx hb dX2_copiesOf_4 rfl (lv_at hl 2 rfl) ?_
      refine lv_aload_n hx hb dX2_copiesOf_5 rfl (lv_at hl 0 rfl) ?_
      refine sh_g3 hx hb hts hown hK hP (v := σ 3 0) rfl dX2_copiesOf_6 ?_
      refine lv_icmp_geN (k) (nN σ) hx hb rfl (okS_3 (σ := σ) (by with_reducible assumption)) (by omega) (by omega) (tgt := 31) dX2_copiesOf_9 (by decide) (fun c_9 => ?_) (fun c_9 => ?_)
      · have ex : x2 = g_X2_copiesOf_4 σ x (nN σ + 1) 0 0 := ((br_p c_9 rfl) : x2 = g_X2_copiesOf_4 σ x (fu + 1) k x2).trans hg_4
        exact K_31 ls (by rw [← ex]; exact lv_sub hl [0, 1, 3] rfl)
      refine lv_aload_n hx hb dX2_copiesOf_12 rfl (lv_at hl 0 rfl) ?_
      refine sh_g10 hx hb hts hown hK hP dX2_copiesOf_13 ?_
      refine lv_iload_n hx hb dX2_copiesOf_16 rfl (lv_at hl 2 rfl) ?_
      refine sh_r10 hx hb hK hP (k) rfl (by omega) (v := σ 10 k) rfl dX2_copiesOf_17 ?_
      refine lv_iload_n hx hb dX2_copiesOf_18 rfl (lv_at hl 1 rfl) ?_
      refine lv_icmp_ne (tgt := 25) hx hb dX2_copiesOf_19 (by decide) (fun c_19 => ?_) (fun c_19 => ?_)
      · refine lv_iinc (v := nI (k + 1)) (lv' := [(3, .int (nI (k + 1))), (0, .ref (o)), (1, .int (x)), (2, .int (x2))]) hx hb dX2_copiesOf_25 hl (k := 2) rfl (nI_c1 _) (by decide) rfl (fun ls hl => ?_)
        refine lv_goto (tgt := 4) hx hb dX2_copiesOf_28 (by decide) ?_
        exact ih (k + 1) x2 (by omega) (by omega) (((br_n c_9 (br_n c_19 rfl)) : g_X2_copiesOf_4 σ x fu (k + 1) x2 = g_X2_copiesOf_4 σ x (fu + 1) k x2).trans hg_4) ls (lv_sub hl [1, 2, 0, 3] rfl)
      refine lv_iinc (v := x2 + 1) (lv' := [(2, .int (x2 + 1)), (0, .ref (o)), (1, .int (x)), (3, .int (nI k))]) hx hb dX2_copiesOf_22 hl (k := 3) rfl rfl (by decide) rfl (fun ls hl => ?_)
      refine lv_iinc (v := nI (k + 1)) (lv' := [(3, .int (nI (k + 1))), (2, .int (x2 + 1)), (0, .ref (o)), (1, .int (x))]) hx hb dX2_copiesOf_25 hl (k := 3) rfl (nI_c1 _) (by decide) rfl (fun ls hl => ?_)
      refine lv_goto (tgt := 4) hx hb dX2_copiesOf_28 (by decide) ?_
      exact ih (k + 1) (x2 + 1) (by omega) (by omega) (((br_n c_9 (br_p c_19 rfl)) : g_X2_copiesOf_4 σ x fu (k + 1) (x2 + 1) = g_X2_copiesOf_4 σ x (fu + 1) k x2).trans hg_4) ls (lv_sub hl [2, 3, 0, 1] rfl)
  exact L_4 (nN σ + 1) 0 0 (by omega) (by omega) rfl ls (lv_sub hl [2, 3, 0, 1] rfl)
theorem kV_X2_copiesOf {R : Room} {s : State} {args : Array Value} {own : String} {idx : Nat} {c0 : Cond} (hts : ∀ w ∈ c0 :: W0, w.before args s = true) (hl : Cond.methodLink own idx yX2_copiesOf ∈ W0) (hR : rm_X2_copiesOf.frames + 1 ≤ R.frames ∧ 8 + (4 + 11) + rm_X2_copiesOf.locals ≤ R.locals) : CallW R s args own RX2 idx yX2_copiesOf cX2_copiesOf 4 (some .int) (Cond.code yX2_copiesOf cX2_copiesOf 4 (some .int) :: W0) rm_X2_copiesOf 0 0 1 := cwV 1 hts (gdV hl mi_yX2_copiesOf ms_yX2_copiesOf mini_X2 mc_yX2_copiesOf) rfl rfl rfl (by decide +kernel) hR

/-! X2.copiesOfIn -/
def g_X2_copiesOfIn_5 (σ : Nat → Nat → Int32) (x : Int32) (y : Int32) : Nat → (Nat) → (Int32) → Int32
  | 0, k, x3 => x3
  | fu + 1, k, x3 => (if nN σ ≤ k then x3 else (if (σ 10 k) = x then (if (σ 13 k) = y then g_X2_copiesOfIn_5 σ x y fu (k + 1) (x3 + 1) else g_X2_copiesOfIn_5 σ x y fu (k + 1) x3) else g_X2_copiesOfIn_5 σ x y fu (k + 1) x3))
def f_X2_copiesOfIn (σ : Nat → Nat → Int32) (x : Int32) (y : Int32) : Int32 := (g_X2_copiesOfIn_5 σ x y (nN σ + 1) 0 0)
abbrev rm_X2_copiesOfIn : Room := { frames := 0, cells := 0, slots := 0, locals := 0 }
set_option maxRecDepth 100000 in
theorem c_X2_copiesOfIn (l : Launch) (D : va_G) (cI : ClassId) (o : Nat) (a : Nat → Nat) (σ : Nat → Nat → Int32) (x : Int32) (y : Int32) (hok : okS σ) :
    Met l yX2_copiesOfIn (Cond.code yX2_copiesOfIn cX2_copiesOfIn 5 (some .int) :: W0) rm_X2_copiesOfIn (va_Pc [.ref o, .int x, .int y] (shP D cI o a σ)) (vp_Si (fun r => r = f_X2_copiesOfIn σ x y)) 0 0 (fun _ => False) := by
  refine st_gen (cc := cX2_copiesOfIn) (maxL := 5) (ret := some .int) (own := RX2) (by decide) rfl (Nat.le_of_ble_eq_true rfl) ?_
  intro p e s m below meth c ls C hPre hl
  obtain ⟨hx, hb, hr, hml, hown, hts, hlk⟩ := C
  obtain ⟨hP, hK⟩ := hPre
  have hl : lv_has ls 5 [(0, .ref (o)), (1, .int (x)), (2, .int (y))] := hl
  obtain ⟨hT6, hC6, hN6⟩ := okS_b hok
  refine lv_iconst (v := 0) hx hb dX2_copiesOfIn_0 (by decide) ?_
  refine lv_istore_n (lv' := [(3, .int (0)), (0, .ref (o)), (1, .int (x)), (2, .int (y))]) hx hb dX2_copiesOfIn_1 rfl hl (by decide) rfl (fun ls hl => ?_)
  refine lv_iconst (v := 0) hx hb dX2_copiesOfIn_2 (by decide) ?_
  refine lv_istore (lv' := [(4, .int (0)), (3, .int (0)), (0, .ref (o)), (1, .int (x)), (2, .int (y))]) hx hb dX2_copiesOfIn_3 hl (by decide) rfl (fun ls hl => ?_)
  have K_45 : ∀ ls, lv_has ls 5 [(0, .ref (o)), (1, .int (x)), (2, .int (y)), (3, .int ((g_X2_copiesOfIn_5 σ x y (nN σ + 1) 0 0)))] → W p l e rm_X2_copiesOfIn s m (([.ref (o), .int (x), .int (y)] : List Value).toArray) below meth c s.heap [] 0 0 (MQ below (vp_Si (fun r => r = f_X2_copiesOfIn σ x y)) ([.ref (o), .int (x), .int (y)] : List Value).toArray s 0 0 (fun _ => False)) (F0 m 45 ls []) := by
    intro ls hl
    refine lv_iload_n hx hb dX2_copiesOfIn_45 rfl (lv_at hl 3 rfl) ?_
    exact fin_i hx hb hr hlk rfl dX2_copiesOfIn_46
  have L_5 : ∀ (fu : Nat) (k : Nat) (x3 : Int32), nN σ - k < fu → k ≤ nN σ → g_X2_copiesOfIn_5 σ x y fu k x3 = g_X2_copiesOfIn_5 σ x y (nN σ + 1) 0 0 → ∀ ls, lv_has ls 5 [(0, .ref (o)), (1, .int (x)), (2, .int (y)), (4, .int (nI k)), (3, .int (x3))] → W p l e rm_X2_copiesOfIn s m (([.ref (o), .int (x), .int (y)] : List Value).toArray) below meth c s.heap [] 0 0 (MQ below (vp_Si (fun r => r = f_X2_copiesOfIn σ x y)) ([.ref (o), .int (x), .int (y)] : List Value).toArray s 0 0 (fun _ => False)) (F0 m 5 ls []) := by
    intro fu
    induction fu with
    | zero => intro k x3 hm; exact absurd hm (Nat.not_lt_zero _)
    | succ fu ih =>
      intro k x3 hm hkN hg_5 ls hl
      refine lv_iload hx hb dX2_copiesOfIn_5 (lv_at hl 3 rfl) ?_
      refine lv_aload_n hx hb dX2_copiesOfIn_7 rfl (lv_at hl 0 rfl) ?_
      refine sh_g3 hx hb hts hown hK hP (v := σ 3 0) rfl dX2_copiesOfIn_8 ?_
      refine lv_icmp_geN (k) (nN σ) hx hb rfl (okS_3 (σ := σ) (by with_reducible assumption)) (by omega) (by omega) (tgt := 45) dX2_copiesOfIn_11 (by decide) (fun c_11 => ?_) (fun c_11 => ?_)
      · have ex : x3 = g_X2_copiesOfIn_5 σ x y (nN σ + 1) 0 0 := ((br_p c_11 rfl) : x3 = g_X2_copiesOfIn_5 σ x y (fu + 1) k x3).trans hg_5
        exact K_45 ls (by rw [← ex]; exact lv_sub hl [0, 1, 2, 4] rfl)
      refine lv_aload_n hx hb dX2_copiesOfIn_14 rfl (lv_at hl 0 rfl) ?_
      refine sh_g10 hx hb hts hown hK hP dX2_copiesOfIn_15 ?_
      refine lv_iload hx hb dX2_copiesOfIn_18 (lv_at hl 3 rfl) ?_
      refine sh_r10 hx hb hK hP (k) rfl (by omega) (v := σ 10 k) rfl dX2_copiesOfIn_20 ?_
      refine lv_iload_n hx hb dX2_copiesOfIn_21 rfl (lv_at hl 1 rfl) ?_
      refine lv_icmp_ne (tgt := 39) hx hb dX2_copiesOfIn_22 (by decide) (fun c_22 => ?_) (fun c_22 => ?_)
      · refine lv_iinc (v := nI (k + 1)) (lv' := [(4, .int (nI (k + 1))), (0, .ref (o)), (1, .int (x)), (2, .int (y)), (3, .int (x3))]) hx hb dX2_copiesOfIn_39 hl (k := 3) rfl (nI_c1 _) (by decide) rfl (fun ls hl => ?_)
        refine lv_goto (tgt := 5) hx hb dX2_copiesOfIn_42 (by decide) ?_
        exact ih (k + 1) x3 (by omega) (by omega) (((br_n c_11 (br_n c_22 rfl)) : g_X2_copiesOfIn_5 σ x y fu (k + 1) x3 = g_X2_copiesOfIn_5 σ x y (fu + 1) k x3).trans hg_5) ls (lv_sub hl [1, 2, 3, 0, 4] rfl)
      refine lv_aload_n hx hb dX2_copiesOfIn_25 rfl (lv_at hl 0 rfl) ?_
      refine sh_g13 hx hb hts hown hK hP dX2_copiesOfIn_26 ?_
      refine lv_iload hx hb dX2_copiesOfIn_29 (lv_at hl 3 rfl) ?_
      refine sh_r13 hx hb hK hP (k) rfl (by omega) (v := σ 13 k) rfl dX2_copiesOfIn_31 ?_
      refine lv_iload_n hx hb dX2_copiesOfIn_32 rfl (lv_at hl 2 rfl) ?_
      refine lv_icmp_ne (tgt := 39) hx hb dX2_copiesOfIn_33 (by decide) (fun c_33 => ?_) (fun c_33 => ?_)
      · refine lv_iinc (v := nI (k + 1)) (lv' := [(4, .int (nI (k + 1))), (0, .ref (o)), (1, .int (x)), (2, .int (y)), (3, .int (x3))]) hx hb dX2_copiesOfIn_39 hl (k := 3) rfl (nI_c1 _) (by decide) rfl (fun ls hl => ?_)
        refine lv_goto (tgt := 5) hx hb dX2_copiesOfIn_42 (by decide) ?_
        exact ih (k + 1) x3 (by omega) (by omega) (((br_n c_11 (br_p c_22 (br_n c_33 rfl))) : g_X2_copiesOfIn_5 σ x y fu (k + 1) x3 = g_X2_copiesOfIn_5 σ x y (fu + 1) k x3).trans hg_5) ls (lv_sub hl [1, 2, 3, 0, 4] rfl)
      refine lv_iinc (v := x3 + 1) (lv' := [(3, .int (x3 + 1)), (0, .ref (o)), (1, .int (x)), (2, .int (y)), (4, .int (nI k))]) hx hb dX2_copiesOfIn_36 hl (k := 4) rfl rfl (by decide) rfl (fun ls hl => ?_)
      refine lv_iinc (v := nI (k + 1)) (lv' := [(4, .int (nI (k + 1))), (3, .int (x3 + 1)), (0, .ref (o)), (1, .int (x)), (2, .int (y))]) hx hb dX2_copiesOfIn_39 hl (k := 4) rfl (nI_c1 _) (by decide) rfl (fun ls hl => ?_)
      refine lv_goto (tgt := 5) hx hb dX2_copiesOfIn_42 (by decide) ?_
      exact ih (k + 1) (x3 + 1) (by omega) (by omega) (((br_n c_11 (br_p c_22 (br_p c_33 rfl))) : g_X2_copiesOfIn_5 σ x y fu (k + 1) (x3 + 1) = g_X2_copiesOfIn_5 σ x y (fu + 1) k x3).trans hg_5) ls (lv_sub hl [2, 3, 4, 0, 1] rfl)
  exact L_5 (nN σ + 1) 0 0 (by omega) (by omega) rfl ls (lv_sub hl [2, 3, 4, 0, 1] rfl)
theorem kV_X2_copiesOfIn {R : Room} {s : State} {args : Array Value} {own : String} {idx : Nat} {c0 : Cond} (hts : ∀ w ∈ c0 :: W0, w.before args s = true) (hl : Cond.methodLink own idx yX2_copiesOfIn ∈ W0) (hR : rm_X2_copiesOfIn.frames + 1 ≤ R.frames ∧ 8 + (5 + 11) + rm_X2_copiesOfIn.locals ≤ R.locals) : CallW R s args own RX2 idx yX2_copiesOfIn cX2_copiesOfIn 5 (some .int) (Cond.code yX2_copiesOfIn cX2_copiesOfIn 5 (some .int) :: W0) rm_X2_copiesOfIn 0 0 2 := cwV 2 hts (gdV hl mi_yX2_copiesOfIn ms_yX2_copiesOfIn mini_X2 mc_yX2_copiesOfIn) rfl rfl rfl (by decide +kernel) hR

/-! X2.suits -/
def f_X2_suits (σ : Nat → Nat → Int32) (k : Nat) (jc : Nat) : Int32 := (f_X2_takes σ jc (σ 10 k) (σ 11 k))
abbrev rm_X2_suits : Room := { frames := 1, cells := 0, slots := 0, locals := 23 }
set_option maxRecDepth 100000 in
theorem c_X2_suits (l : Launch) (D : va_G) (cI : ClassId) (o : Nat) (a : Nat → Nat) (σ : Nat → Nat → Int32) (x : Int32) (k : Nat) (hx : x = nI k) (y : Int32) (jc : Nat) (hy : y = nI jc) (hok : okS σ) (hk : k < nN σ) (hjc : jc < nC σ) :
    Met l yX2_suits (Cond.code yX2_suits cX2_suits 3 (some .boolean) :: W0) rm_X2_suits (va_Pc [.ref o, .int x, .int y] (shP D cI o a σ)) (vp_Si (fun r => r = f_X2_suits σ k jc)) 0 0 (fun _ => False) := by
  subst hx
  subst hy
  refine st_gen (cc := cX2_suits) (maxL := 3) (ret := some .boolean) (own := RX2) (by decide) rfl (Nat.le_of_ble_eq_true rfl) ?_
  intro p e s m below meth c ls C hPre hl
  obtain ⟨hx, hb, hr, hml, hown, hts, hlk⟩ := C
  obtain ⟨hP, hK⟩ := hPre
  have hl : lv_has ls 3 [(0, .ref (o)), (1, .int (nI k)), (2, .int (nI jc))] := hl
  obtain ⟨hT6, hC6, hN6⟩ := okS_b hok
  refine lv_aload_n hx hb dX2_suits_0 rfl (lv_at hl 0 rfl) ?_
  refine lv_iload_n hx hb dX2_suits_1 rfl (lv_at hl 2 rfl) ?_
  refine lv_aload_n hx hb dX2_suits_2 rfl (lv_at hl 0 rfl) ?_
  refine sh_g10 hx hb hts hown hK hP dX2_suits_3 ?_
  refine lv_iload_n hx hb dX2_suits_6 rfl (lv_at hl 1 rfl) ?_
  refine sh_r10 hx hb hK hP (k) rfl (by omega) (v := σ 10 k) rfl dX2_suits_7 ?_
  refine lv_aload_n hx hb dX2_suits_8 rfl (lv_at hl 0 rfl) ?_
  refine sh_g11 hx hb hts hown hK hP dX2_suits_9 ?_
  refine lv_iload_n hx hb dX2_suits_12 rfl (lv_at hl 1 rfl) ?_
  refine sh_r11 hx hb hK hP (k) rfl (by omega) (v := σ 11 k) rfl dX2_suits_13 ?_
  refine sh_call (rest := []) hx hb hml hown hts hK hP (c_X2_takes l D cI o a σ (nI jc) jc rfl (σ 10 k) (σ 11 k) (by with_reducible assumption) (by first | with_reducible assumption | omega)) (kV_X2_takes hts ml_X2_222 ⟨(Nat.le_of_ble_eq_true rfl), (Nat.le_of_ble_eq_true rfl)⟩) rfl hl.1 rfl (Nat.le_of_ble_eq_true rfl) dX2_suits_14 (Nat.zero_le _) (Nat.zero_le _) ?_
  exact fin_z hx hb hr hlk (z_X2_takes ..) rfl dX2_suits_17
theorem kV_X2_suits {R : Room} {s : State} {args : Array Value} {own : String} {idx : Nat} {c0 : Cond} (hts : ∀ w ∈ c0 :: W0, w.before args s = true) (hl : Cond.methodLink own idx yX2_suits ∈ W0) (hR : rm_X2_suits.frames + 1 ≤ R.frames ∧ 8 + (3 + 11) + rm_X2_suits.locals ≤ R.locals) : CallW R s args own RX2 idx yX2_suits cX2_suits 3 (some .boolean) (Cond.code yX2_suits cX2_suits 3 (some .boolean) :: W0) rm_X2_suits 0 0 2 := cwV 2 hts (gdV hl mi_yX2_suits ms_yX2_suits mini_X2 mc_yX2_suits) rfl rfl rfl (by decide +kernel) hR

theorem z_X2_suits {σ : Nat → Nat → Int32} {k : Nat} {jc : Nat} : f_X2_suits σ k jc = 0 ∨ f_X2_suits σ k jc = 1 := by
  unfold f_X2_suits
  (repeat' split) <;> first | exact Or.inl rfl | exact Or.inr rfl | exact z_X2_takes

/-! X2.stockFor -/
def g_X2_stockFor_4 (σ : Nat → Nat → Int32) (jc : Nat) : Nat → (Nat) → (Int32) → Int32
  | 0, k, x2 => x2
  | fu + 1, k, x2 => (if nN σ ≤ k then x2 else (if (σ 13 k) = 0 then (if (f_X2_suits σ k jc) = 0 then g_X2_stockFor_4 σ jc fu (k + 1) x2 else g_X2_stockFor_4 σ jc fu (k + 1) (x2 + 1)) else g_X2_stockFor_4 σ jc fu (k + 1) x2))
def f_X2_stockFor (σ : Nat → Nat → Int32) (jc : Nat) : Int32 := (g_X2_stockFor_4 σ jc (nN σ + 1) 0 0)
abbrev rm_X2_stockFor : Room := { frames := 2, cells := 0, slots := 0, locals := 45 }
set_option maxRecDepth 100000 in
theorem c_X2_stockFor (l : Launch) (D : va_G) (cI : ClassId) (o : Nat) (a : Nat → Nat) (σ : Nat → Nat → Int32) (y : Int32) (jc : Nat) (hy : y = nI jc) (hok : okS σ) (hjc : jc < nC σ) :
    Met l yX2_stockFor (Cond.code yX2_stockFor cX2_stockFor 4 (some .int) :: W0) rm_X2_stockFor (va_Pc [.ref o, .int y] (shP D cI o a σ)) (vp_Si (fun r => r = f_X2_stockFor σ jc)) 0 0 (fun _ => False) := by
  subst hy
  refine st_gen (cc := cX2_stockFor) (maxL := 4) (ret := some .int) (own := RX2) (by decide) rfl (Nat.le_of_ble_eq_true rfl) ?_
  intro p e s m below meth c ls C hPre hl
  obtain ⟨hx, hb, hr, hml, hown, hts, hlk⟩ := C
  obtain ⟨hP, hK⟩ := hPre
  have hl : lv_has ls 4 [(0, .ref (o)), (1, .int (nI jc))] := hl
  obtain ⟨hT6, hC6, hN6⟩ := okS_b hok
  refine lv_iconst (v := 0) hx hb dX2_stockFor_0 (by decide) ?_
  refine lv_istore_n (lv' := [(2, .int (0)), (0, .ref (o)), (1, .int (nI jc))]) hx hb dX2_stockFor_1 rfl hl (by decide) rfl (fun ls hl => ?_)
  refine lv_iconst (v := 0) hx hb dX2_stockFor_2 (by decide) ?_
  refine lv_istore_n (lv' := [(3, .int (0)), (2, .int (0)), (0, .ref (o)), (1, .int (nI jc))]) hx hb dX2_stockFor_3 rfl hl (by decide) rfl (fun ls hl => ?_)
  have K_39 : ∀ ls, lv_has ls 4 [(0, .ref (o)), (1, .int (nI jc)), (2, .int ((g_X2_stockFor_4 σ jc (nN σ + 1) 0 0)))] → W p l e rm_X2_stockFor s m (([.ref (o), .int (nI jc)] : List Value).toArray) below meth c s.heap [] 0 0 (MQ below (vp_Si (fun r => r = f_X2_stockFor σ jc)) ([.ref (o), .int (nI jc)] : List Value).toArray s 0 0 (fun _ => False)) (F0 m 39 ls []) := by
    intro ls hl
    refine lv_iload_n hx hb dX2_stockFor_39 rfl (lv_at hl 2 rfl) ?_
    exact fin_i hx hb hr hlk rfl dX2_stockFor_40
  have L_4 : ∀ (fu : Nat) (k : Nat) (x2 : Int32), nN σ - k < fu → k ≤ nN σ → g_X2_stockFor_4 σ jc fu k x2 = g_X2_stockFor_4 σ jc (nN σ + 1) 0 0 → ∀ ls, lv_has ls 4 [(0, .ref (o)), (1, .int (nI jc)), (3, .int (nI k)), (2, .int (x2))] → W p l e rm_X2_stockFor s m (([.ref (o), .int (nI jc)] : List Value).toArray) below meth c s.heap [] 0 0 (MQ below (vp_Si (fun r => r = f_X2_stockFor σ jc)) ([.ref (o), .int (nI jc)] : List Value).toArray s 0 0 (fun _ => False)) (F0 m 4 ls []) := by
    intro fu
    induction fu with
    | zero => intro k x2 hm; exact absurd hm (Nat.not_lt_zero _)
    | succ fu ih =>
      intro k x2 hm hkN hg_4 ls hl
      refine lv_iload_n hx hb dX2_stockFor_4 rfl (lv_at hl 2 rfl) ?_
      refine lv_aload_n hx hb dX2_stockFor_5 rfl (lv_at hl 0 rfl) ?_
      refine sh_g3 hx hb hts hown hK hP (v := σ 3 0) rfl dX2_stockFor_6 ?_
      refine lv_icmp_geN (k) (nN σ) hx hb rfl (okS_3 (σ := σ) (by with_reducible assumption)) (by omega) (by omega) (tgt := 39) dX2_stockFor_9 (by decide) (fun c_9 => ?_) (fun c_9 => ?_)
      · have ex : x2 = g_X2_stockFor_4 σ jc (nN σ + 1) 0 0 := ((br_p c_9 rfl) : x2 = g_X2_stockFor_4 σ jc (fu + 1) k x2).trans hg_4
        exact K_39 ls (by rw [← ex]; exact lv_sub hl [0, 1, 3] rfl)
      refine lv_aload_n hx hb dX2_stockFor_12 rfl (lv_at hl 0 rfl) ?_
      refine sh_g13 hx hb hts hown hK hP dX2_stockFor_13 ?_
      refine lv_iload_n hx hb dX2_stockFor_16 rfl (lv_at hl 2 rfl) ?_
      refine sh_r13 hx hb hK hP (k) rfl (by omega) (v := σ 13 k) rfl dX2_stockFor_17 ?_
      refine lv_if_ne (tgt := 33) hx hb dX2_stockFor_18 (by decide) (fun c_18 => ?_) (fun c_18 => ?_)
      · refine lv_iinc (v := nI (k + 1)) (lv' := [(3, .int (nI (k + 1))), (0, .ref (o)), (1, .int (nI jc)), (2, .int (x2))]) hx hb dX2_stockFor_33 hl (k := 2) rfl (nI_c1 _) (by decide) rfl (fun ls hl => ?_)
        refine lv_goto (tgt := 4) hx hb dX2_stockFor_36 (by decide) ?_
        exact ih (k + 1) x2 (by omega) (by omega) (((br_n c_9 (br_n c_18 rfl)) : g_X2_stockFor_4 σ jc fu (k + 1) x2 = g_X2_stockFor_4 σ jc (fu + 1) k x2).trans hg_4) ls (lv_sub hl [1, 2, 0, 3] rfl)
      refine lv_aload_n hx hb dX2_stockFor_21 rfl (lv_at hl 0 rfl) ?_
      refine lv_iload_n hx hb dX2_stockFor_22 rfl (lv_at hl 2 rfl) ?_
      refine lv_iload_n hx hb dX2_stockFor_23 rfl (lv_at hl 1 rfl) ?_
      refine sh_call (rest := []) hx hb hml hown hts hK hP (c_X2_suits l D cI o a σ (nI k) k rfl (nI jc) jc rfl (by with_reducible assumption) (by first | with_reducible assumption | omega) (by first | with_reducible assumption | omega)) (kV_X2_suits hts ml_X2_191 ⟨(Nat.le_of_ble_eq_true rfl), (Nat.le_of_ble_eq_true rfl)⟩) rfl hl.1 rfl (Nat.le_of_ble_eq_true rfl) dX2_stockFor_24 (Nat.zero_le _) (Nat.zero_le _) ?_
      refine lv_if_eq (tgt := 33) hx hb dX2_stockFor_27 (by decide) (fun c_27 => ?_) (fun c_27 => ?_)
      · refine lv_iinc (v := nI (k + 1)) (lv' := [(3, .int (nI (k + 1))), (0, .ref (o)), (1, .int (nI jc)), (2, .int (x2))]) hx hb dX2_stockFor_33 hl (k := 2) rfl (nI_c1 _) (by decide) rfl (fun ls hl => ?_)
        refine lv_goto (tgt := 4) hx hb dX2_stockFor_36 (by decide) ?_
        exact ih (k + 1) x2 (by omega) (by omega) (((br_n c_9 (br_p c_18 (br_p c_27 rfl))) : g_X2_stockFor_4 σ jc fu (k + 1) x2 = g_X2_stockFor_4 σ jc (fu + 1) k x2).trans hg_4) ls (lv_sub hl [1, 2, 0, 3] rfl)
      refine lv_iinc (v := x2 + 1) (lv' := [(2, .int (x2 + 1)), (0, .ref (o)), (1, .int (nI jc)), (3, .int (nI k))]) hx hb dX2_stockFor_30 hl (k := 3) rfl rfl (by decide) rfl (fun ls hl => ?_)
      refine lv_iinc (v := nI (k + 1)) (lv' := [(3, .int (nI (k + 1))), (2, .int (x2 + 1)), (0, .ref (o)), (1, .int (nI jc))]) hx hb dX2_stockFor_33 hl (k := 3) rfl (nI_c1 _) (by decide) rfl (fun ls hl => ?_)
      refine lv_goto (tgt := 4) hx hb dX2_stockFor_36 (by decide) ?_
      exact ih (k + 1) (x2 + 1) (by omega) (by omega) (((br_n c_9 (br_p c_18 (br_n c_27 rfl))) : g_X2_stockFor_4 σ jc fu (k + 1) (x2 + 1) = g_X2_stockFor_4 σ jc (fu + 1) k x2).trans hg_4) ls (lv_sub hl [2, 3, 0, 1] rfl)
  exact L_4 (nN σ + 1) 0 0 (by omega) (by omega) rfl ls (lv_sub hl [2, 3, 0, 1] rfl)
theorem kV_X2_stockFor {R : Room} {s : State} {args : Array Value} {own : String} {idx : Nat} {c0 : Cond} (hts : ∀ w ∈ c0 :: W0, w.before args s = true) (hl : Cond.methodLink own idx yX2_stockFor ∈ W0) (hR : rm_X2_stockFor.frames + 1 ≤ R.frames ∧ 8 + (4 + 11) + rm_X2_stockFor.locals ≤ R.locals) : CallW R s args own RX2 idx yX2_stockFor cX2_stockFor 4 (some .int) (Cond.code yX2_stockFor cX2_stockFor 4 (some .int) :: W0) rm_X2_stockFor 0 0 1 := cwV 1 hts (gdV hl mi_yX2_stockFor ms_yX2_stockFor mini_X2 mc_yX2_stockFor) rfl rfl rfl (by decide +kernel) hR

/-! X2.isOfUse -/
def g_X2_isOfUse_2 (σ : Nat → Nat → Int32) (x : Int32) (y : Int32) : Nat → (Nat) → Int32
  | 0, k => 0
  | fu + 1, k => (if nC σ ≤ k then 0 else (if (f_X2_takes σ k x y) = 0 then g_X2_isOfUse_2 σ x y fu (k + 1) else 1))
def f_X2_isOfUse (σ : Nat → Nat → Int32) (x : Int32) (y : Int32) : Int32 := g_X2_isOfUse_2 σ x y (nC σ + 1) 0
abbrev rm_X2_isOfUse : Room := { frames := 1, cells := 0, slots := 0, locals := 23 }
set_option maxRecDepth 100000 in
theorem c_X2_isOfUse (l : Launch) (D : va_G) (cI : ClassId) (o : Nat) (a : Nat → Nat) (σ : Nat → Nat → Int32) (x : Int32) (y : Int32) (hok : okS σ) :
    Met l yX2_isOfUse (Cond.code yX2_isOfUse cX2_isOfUse 4 (some .boolean) :: W0) rm_X2_isOfUse (va_Pc [.ref o, .int x, .int y] (shP D cI o a σ)) (vp_Si (fun r => r = f_X2_isOfUse σ x y)) 0 0 (fun _ => False) := by
  refine st_gen (cc := cX2_isOfUse) (maxL := 4) (ret := some .boolean) (own := RX2) (by decide) rfl (Nat.le_of_ble_eq_true rfl) ?_
  intro p e s m below meth c ls C hPre hl
  obtain ⟨hx, hb, hr, hml, hown, hts, hlk⟩ := C
  obtain ⟨hP, hK⟩ := hPre
  have hl : lv_has ls 4 [(0, .ref (o)), (1, .int (x)), (2, .int (y))] := hl
  obtain ⟨hT6, hC6, hN6⟩ := okS_b hok
  refine lv_iconst (v := 0) hx hb dX2_isOfUse_0 (by decide) ?_
  refine lv_istore_n (lv' := [(3, .int (0)), (0, .ref (o)), (1, .int (x)), (2, .int (y))]) hx hb dX2_isOfUse_1 rfl hl (by decide) rfl (fun ls hl => ?_)
  have ho_2 : g_X2_isOfUse_2 σ x y (nC σ + 1) 0 = f_X2_isOfUse σ x y := rfl
  have L_2 : ∀ (fu : Nat) (k : Nat), nC σ - k < fu → k ≤ nC σ → g_X2_isOfUse_2 σ x y fu k = g_X2_isOfUse_2 σ x y (nC σ + 1) 0 → ∀ ls, lv_has ls 4 [(0, .ref (o)), (1, .int (x)), (2, .int (y)), (3, .int (nI k))] → W p l e rm_X2_isOfUse s m (([.ref (o), .int (x), .int (y)] : List Value).toArray) below meth c s.heap [] 0 0 (MQ below (vp_Si (fun r => r = f_X2_isOfUse σ x y)) ([.ref (o), .int (x), .int (y)] : List Value).toArray s 0 0 (fun _ => False)) (F0 m 2 ls []) := by
    intro fu
    induction fu with
    | zero => intro k hm; exact absurd hm (Nat.not_lt_zero _)
    | succ fu ih =>
      intro k hm hkN hg_2 ls hl
      refine lv_iload_n hx hb dX2_isOfUse_2 rfl (lv_at hl 3 rfl) ?_
      refine lv_aload_n hx hb dX2_isOfUse_3 rfl (lv_at hl 0 rfl) ?_
      refine sh_g2 hx hb hts hown hK hP (v := σ 2 0) rfl dX2_isOfUse_4 ?_
      refine lv_icmp_geN (k) (nC σ) hx hb rfl (okS_2 (σ := σ) (by with_reducible assumption)) (by omega) (by omega) (tgt := 28) dX2_isOfUse_7 (by decide) (fun c_7 => ?_) (fun c_7 => ?_)
      · refine lv_iconst (v := 0) hx hb dX2_isOfUse_28 (by decide) ?_
        exact fin_z hx hb hr hlk (Or.inl rfl) (((br_p c_7 rfl) : _ = g_X2_isOfUse_2 σ x y (fu + 1) k).trans (hg_2.trans ho_2)) dX2_isOfUse_29
      refine lv_aload_n hx hb dX2_isOfUse_10 rfl (lv_at hl 0 rfl) ?_
      refine lv_iload_n hx hb dX2_isOfUse_11 rfl (lv_at hl 3 rfl) ?_
      refine lv_iload_n hx hb dX2_isOfUse_12 rfl (lv_at hl 1 rfl) ?_
      refine lv_iload_n hx hb dX2_isOfUse_13 rfl (lv_at hl 2 rfl) ?_
      refine sh_call (rest := []) hx hb hml hown hts hK hP (c_X2_takes l D cI o a σ (nI k) k rfl x y (by with_reducible assumption) (by first | with_reducible assumption | omega)) (kV_X2_takes hts ml_X2_222 ⟨(Nat.le_of_ble_eq_true rfl), (Nat.le_of_ble_eq_true rfl)⟩) rfl hl.1 rfl (Nat.le_of_ble_eq_true rfl) dX2_isOfUse_14 (Nat.zero_le _) (Nat.zero_le _) ?_
      refine lv_if_eq (tgt := 22) hx hb dX2_isOfUse_17 (by decide) (fun c_17 => ?_) (fun c_17 => ?_)
      · refine lv_iinc (v := nI (k + 1)) (lv' := [(3, .int (nI (k + 1))), (0, .ref (o)), (1, .int (x)), (2, .int (y))]) hx hb dX2_isOfUse_22 hl (k := 3) rfl (nI_c1 _) (by decide) rfl (fun ls hl => ?_)
        refine lv_goto (tgt := 2) hx hb dX2_isOfUse_25 (by decide) ?_
        exact ih (k + 1) (by omega) (by omega) (((br_n c_7 (br_p c_17 rfl)) : g_X2_isOfUse_2 σ x y fu (k + 1) = g_X2_isOfUse_2 σ x y (fu + 1) k).trans hg_2) ls (lv_sub hl [1, 2, 3, 0] rfl)
      refine lv_iconst (v := 1) hx hb dX2_isOfUse_20 (by decide) ?_
      exact fin_z hx hb hr hlk (Or.inr rfl) (((br_n c_7 (br_n c_17 rfl)) : _ = g_X2_isOfUse_2 σ x y (fu + 1) k).trans (hg_2.trans ho_2)) dX2_isOfUse_21
  exact L_2 (nC σ + 1) 0 (by omega) (by omega) rfl ls (lv_sub hl [1, 2, 3, 0] rfl)
theorem kV_X2_isOfUse {R : Room} {s : State} {args : Array Value} {own : String} {idx : Nat} {c0 : Cond} (hts : ∀ w ∈ c0 :: W0, w.before args s = true) (hl : Cond.methodLink own idx yX2_isOfUse ∈ W0) (hR : rm_X2_isOfUse.frames + 1 ≤ R.frames ∧ 8 + (4 + 11) + rm_X2_isOfUse.locals ≤ R.locals) : CallW R s args own RX2 idx yX2_isOfUse cX2_isOfUse 4 (some .boolean) (Cond.code yX2_isOfUse cX2_isOfUse 4 (some .boolean) :: W0) rm_X2_isOfUse 0 0 2 := cwV 2 hts (gdV hl mi_yX2_isOfUse ms_yX2_isOfUse mini_X2 mc_yX2_isOfUse) rfl rfl rfl (by decide +kernel) hR

theorem z_g_X2_isOfUse_2 {σ : Nat → Nat → Int32} {x : Int32} {y : Int32} : ∀ (fu : Nat) (k : Nat), g_X2_isOfUse_2 σ x y fu k = 0 ∨ g_X2_isOfUse_2 σ x y fu k = 1 := by
  intro fu
  induction fu with
  | zero => intros; exact Or.inl rfl
  | succ fu ih =>
    intros
    rw [g_X2_isOfUse_2]
    (repeat' split) <;> first | exact Or.inl rfl | exact Or.inr rfl | exact ih .. | exact z_X2_takes

theorem z_X2_isOfUse {σ : Nat → Nat → Int32} {x : Int32} {y : Int32} : f_X2_isOfUse σ x y = 0 ∨ f_X2_isOfUse σ x y = 1 := by
  unfold f_X2_isOfUse
  (repeat' split) <;> first | exact Or.inl rfl | exact Or.inr rfl | exact z_X2_takes | exact z_g_X2_isOfUse_2 ..

/-! X2.supplyOf -/
def g_X2_supplyOf_4 (σ : Nat → Nat → Int32) (x : Int32) : Nat → (Nat) → (Int32) → Int32
  | 0, k, x2 => x2
  | fu + 1, k, x2 => (if nN σ ≤ k then x2 else (if (σ 13 k) = 0 then (if (σ 10 k) = x then (if (f_X2_isOfUse σ x (σ 11 k)) = 0 then g_X2_supplyOf_4 σ x fu (k + 1) x2 else g_X2_supplyOf_4 σ x fu (k + 1) (x2 + 1)) else g_X2_supplyOf_4 σ x fu (k + 1) x2) else (if (σ 13 k) = 1 then (if (σ 10 k) = x then (if (f_X2_isOfUse σ x (σ 11 k)) = 0 then g_X2_supplyOf_4 σ x fu (k + 1) x2 else g_X2_supplyOf_4 σ x fu (k + 1) (x2 + 1)) else g_X2_supplyOf_4 σ x fu (k + 1) x2) else (if (σ 10 k) = x then g_X2_supplyOf_4 σ x fu (k + 1) x2 else g_X2_supplyOf_4 σ x fu (k + 1) x2))))
def f_X2_supplyOf (σ : Nat → Nat → Int32) (x : Int32) : Int32 := (g_X2_supplyOf_4 σ x (nN σ + 1) 0 0)
abbrev rm_X2_supplyOf : Room := { frames := 2, cells := 0, slots := 0, locals := 46 }
set_option maxRecDepth 100000 in
theorem c_X2_supplyOf (l : Launch) (D : va_G) (cI : ClassId) (o : Nat) (a : Nat → Nat) (σ : Nat → Nat → Int32) (x : Int32) (hok : okS σ) :
    Met l yX2_supplyOf (Cond.code yX2_supplyOf cX2_supplyOf 5 (some .int) :: W0) rm_X2_supplyOf (va_Pc [.ref o, .int x] (shP D cI o a σ)) (vp_Si (fun r => r = f_X2_supplyOf σ x)) 0 0 (fun _ => False) := by
  refine st_gen (cc := cX2_supplyOf) (maxL := 5) (ret := some .int) (own := RX2) (by decide) rfl (Nat.le_of_ble_eq_true rfl) ?_
  intro p e s m below meth c ls C hPre hl
  obtain ⟨hx, hb, hr, hml, hown, hts, hlk⟩ := C
  obtain ⟨hP, hK⟩ := hPre
  have hl : lv_has ls 5 [(0, .ref (o)), (1, .int (x))] := hl
  obtain ⟨hT6, hC6, hN6⟩ := okS_b hok
  refine lv_iconst (v := 0) hx hb dX2_supplyOf_0 (by decide) ?_
  refine lv_istore_n (lv' := [(2, .int (0)), (0, .ref (o)), (1, .int (x))]) hx hb dX2_supplyOf_1 rfl hl (by decide) rfl (fun ls hl => ?_)
  refine lv_iconst (v := 0) hx hb dX2_supplyOf_2 (by decide) ?_
  refine lv_istore_n (lv' := [(3, .int (0)), (2, .int (0)), (0, .ref (o)), (1, .int (x))]) hx hb dX2_supplyOf_3 rfl hl (by decide) rfl (fun ls hl => ?_)
  have K_76 : ∀ ls, lv_has ls 5 [(0, .ref (o)), (1, .int (x)), (2, .int ((g_X2_supplyOf_4 σ x (nN σ + 1) 0 0)))] → W p l e rm_X2_supplyOf s m (([.ref (o), .int (x)] : List Value).toArray) below meth c s.heap [] 0 0 (MQ below (vp_Si (fun r => r = f_X2_supplyOf σ x)) ([.ref (o), .int (x)] : List Value).toArray s 0 0 (fun _ => False)) (F0 m 76 ls []) := by
    intro ls hl
    refine lv_iload_n hx hb dX2_supplyOf_76 rfl (lv_at hl 2 rfl) ?_
    exact fin_i hx hb hr hlk rfl dX2_supplyOf_77
  have L_4 : ∀ (fu : Nat) (k : Nat) (x2 : Int32), nN σ - k < fu → k ≤ nN σ → g_X2_supplyOf_4 σ x fu k x2 = g_X2_supplyOf_4 σ x (nN σ + 1) 0 0 → ∀ ls, lv_has ls 5 [(0, .ref (o)), (1, .int (x)), (3, .int (nI k)), (2, .int (x2))] → W p l e rm_X2_supplyOf s m (([.ref (o), .int (x)] : List Value).toArray) below meth c s.heap [] 0 0 (MQ below (vp_Si (fun r => r = f_X2_supplyOf σ x)) ([.ref (o), .int (x)] : List Value).toArray s 0 0 (fun _ => False)) (F0 m 4 ls []) := by
    intro fu
    induction fu with
    | zero => intro k x2 hm; exact absurd hm (Nat.not_lt_zero _)
    | succ fu ih =>
      intro k x2 hm hkN hg_4 ls hl
      refine lv_iload_n hx hb dX2_supplyOf_4 rfl (lv_at hl 2 rfl) ?_
      refine lv_aload_n hx hb dX2_supplyOf_5 rfl (lv_at hl 0 rfl) ?_
      refine sh_g3 hx hb hts hown hK hP (v := σ 3 0) rfl dX2_supplyOf_6 ?_
      refine lv_icmp_geN (k) (nN σ) hx hb rfl (okS_3 (σ := σ) (by with_reducible assumption)) (by omega) (by omega) (tgt := 76) dX2_supplyOf_9 (by decide) (fun c_9 => ?_) (fun c_9 => ?_)
      · have ex : x2 = g_X2_supplyOf_4 σ x (nN σ + 1) 0 0 := ((br_p c_9 rfl) : x2 = g_X2_supplyOf_4 σ x (fu + 1) k x2).trans hg_4
        exact K_76 ls (by rw [← ex]; exact lv_sub hl [0, 1, 3] rfl)
      refine lv_aload_n hx hb dX2_supplyOf_12 rfl (lv_at hl 0 rfl) ?_
      refine sh_g13 hx hb hts hown hK hP dX2_supplyOf_13 ?_
      refine lv_iload_n hx hb dX2_supplyOf_16 rfl (lv_at hl 2 rfl) ?_
      refine sh_r13 hx hb hK hP (k) rfl (by omega) (v := σ 13 k) rfl dX2_supplyOf_17 ?_
      refine lv_if_eq (tgt := 31) hx hb dX2_supplyOf_18 (by decide) (fun c_18 => ?_) (fun c_18 => ?_)
      · refine lv_iconst (v := 1) hx hb dX2_supplyOf_31 (by decide) ?_
        refine lv_goto (tgt := 36) hx hb dX2_supplyOf_32 (by decide) ?_
        refine lv_istore (lv' := [(4, .int (1)), (0, .ref (o)), (1, .int (x)), (3, .int (nI k)), (2, .int (x2))]) hx hb dX2_supplyOf_36 hl (by decide) rfl (fun ls hl => ?_)
        refine lv_aload_n hx hb dX2_supplyOf_38 rfl (lv_at hl 1 rfl) ?_
        refine sh_g10 hx hb hts hown hK hP dX2_supplyOf_39 ?_
        refine lv_iload_n hx hb dX2_supplyOf_42 rfl (lv_at hl 3 rfl) ?_
        refine sh_r10 hx hb hK hP (k) rfl (by omega) (v := σ 10 k) rfl dX2_supplyOf_43 ?_
        refine lv_iload_n hx hb dX2_supplyOf_44 rfl (lv_at hl 2 rfl) ?_
        refine lv_icmp_ne (tgt := 70) hx hb dX2_supplyOf_45 (by decide) (fun c_45 => ?_) (fun c_45 => ?_)
        · refine lv_iinc (v := nI (k + 1)) (lv' := [(3, .int (nI (k + 1))), (4, .int (1)), (0, .ref (o)), (1, .int (x)), (2, .int (x2))]) hx hb dX2_supplyOf_70 hl (k := 3) rfl (nI_c1 _) (by decide) rfl (fun ls hl => ?_)
          refine lv_goto (tgt := 4) hx hb dX2_supplyOf_73 (by decide) ?_
          exact ih (k + 1) x2 (by omega) (by omega) (((br_n c_9 (br_p c_18 (br_n c_45 rfl))) : g_X2_supplyOf_4 σ x fu (k + 1) x2 = g_X2_supplyOf_4 σ x (fu + 1) k x2).trans hg_4) ls (lv_sub hl [2, 3, 0, 4] rfl)
        refine lv_iload hx hb dX2_supplyOf_48 (lv_at hl 0 rfl) ?_
        refine lv_if_eq (tgt := 70) hx hb dX2_supplyOf_50 (by decide) (fun q => absurd q (by decide)) (fun _ => ?_)
        refine lv_aload_n hx hb dX2_supplyOf_53 rfl (lv_at hl 1 rfl) ?_
        refine lv_iload_n hx hb dX2_supplyOf_54 rfl (lv_at hl 2 rfl) ?_
        refine lv_aload_n hx hb dX2_supplyOf_55 rfl (lv_at hl 1 rfl) ?_
        refine sh_g11 hx hb hts hown hK hP dX2_supplyOf_56 ?_
        refine lv_iload_n hx hb dX2_supplyOf_59 rfl (lv_at hl 3 rfl) ?_
        refine sh_r11 hx hb hK hP (k) rfl (by omega) (v := σ 11 k) rfl dX2_supplyOf_60 ?_
        refine sh_call (rest := []) hx hb hml hown hts hK hP (c_X2_isOfUse l D cI o a σ x (σ 11 k) (by with_reducible assumption)) (kV_X2_isOfUse hts ml_X2_140 ⟨(Nat.le_of_ble_eq_true rfl), (Nat.le_of_ble_eq_true rfl)⟩) rfl hl.1 rfl (Nat.le_of_ble_eq_true rfl) dX2_supplyOf_61 (Nat.zero_le _) (Nat.zero_le _) ?_
        refine lv_if_eq (tgt := 70) hx hb dX2_supplyOf_64 (by decide) (fun c_64 => ?_) (fun c_64 => ?_)
        · refine lv_iinc (v := nI (k + 1)) (lv' := [(3, .int (nI (k + 1))), (4, .int (1)), (0, .ref (o)), (1, .int (x)), (2, .int (x2))]) hx hb dX2_supplyOf_70 hl (k := 3) rfl (nI_c1 _) (by decide) rfl (fun ls hl => ?_)
          refine lv_goto (tgt := 4) hx hb dX2_supplyOf_73 (by decide) ?_
          exact ih (k + 1) x2 (by omega) (by omega) (((br_n c_9 (br_p c_18 (br_p c_45 (br_p c_64 rfl)))) : g_X2_supplyOf_4 σ x fu (k + 1) x2 = g_X2_supplyOf_4 σ x (fu + 1) k x2).trans hg_4) ls (lv_sub hl [2, 3, 0, 4] rfl)
        refine lv_iinc (v := x2 + 1) (lv' := [(2, .int (x2 + 1)), (4, .int (1)), (0, .ref (o)), (1, .int (x)), (3, .int (nI k))]) hx hb dX2_supplyOf_67 hl (k := 4) rfl rfl (by decide) rfl (fun ls hl => ?_)
        refine lv_iinc (v := nI (k + 1)) (lv' := [(3, .int (nI (k + 1))), (2, .int (x2 + 1)), (4, .int (1)), (0, .ref (o)), (1, .int (x))]) hx hb dX2_supplyOf_70 hl (k := 4) rfl (nI_c1 _) (by decide) rfl (fun ls hl => ?_)
        refine lv_goto (tgt := 4) hx hb dX2_supplyOf_73 (by decide) ?_
        exact ih (k + 1) (x2 + 1) (by omega) (by omega) (((br_n c_9 (br_p c_18 (br_p c_45 (br_n c_64 rfl)))) : g_X2_supplyOf_4 σ x fu (k + 1) (x2 + 1) = g_X2_supplyOf_4 σ x (fu + 1) k x2).trans hg_4) ls (lv_sub hl [3, 4, 0, 1] rfl)
      refine lv_aload_n hx hb dX2_supplyOf_21 rfl (lv_at hl 0 rfl) ?_
      refine sh_g13 hx hb hts hown hK hP dX2_supplyOf_22 ?_
      refine lv_iload_n hx hb dX2_supplyOf_25 rfl (lv_at hl 2 rfl) ?_
      refine sh_r13 hx hb hK hP (k) rfl (by omega) (v := σ 13 k) rfl dX2_supplyOf_26 ?_
      refine lv_iconst (v := 1) hx hb dX2_supplyOf_27 (by decide) ?_
      refine lv_icmp_ne (tgt := 35) hx hb dX2_supplyOf_28 (by decide) (fun c_28 => ?_) (fun c_28 => ?_)
      · refine lv_iconst (v := 0) hx hb dX2_supplyOf_35 (by decide) ?_
        refine lv_istore (lv' := [(4, .int (0)), (0, .ref (o)), (1, .int (x)), (3, .int (nI k)), (2, .int (x2))]) hx hb dX2_supplyOf_36 hl (by decide) rfl (fun ls hl => ?_)
        refine lv_aload_n hx hb dX2_supplyOf_38 rfl (lv_at hl 1 rfl) ?_
        refine sh_g10 hx hb hts hown hK hP dX2_supplyOf_39 ?_
        refine lv_iload_n hx hb dX2_supplyOf_42 rfl (lv_at hl 3 rfl) ?_
        refine sh_r10 hx hb hK hP (k) rfl (by omega) (v := σ 10 k) rfl dX2_supplyOf_43 ?_
        refine lv_iload_n hx hb dX2_supplyOf_44 rfl (lv_at hl 2 rfl) ?_
        refine lv_icmp_ne (tgt := 70) hx hb dX2_supplyOf_45 (by decide) (fun c_45 => ?_) (fun c_45 => ?_)
        · refine lv_iinc (v := nI (k + 1)) (lv' := [(3, .int (nI (k + 1))), (4, .int (0)), (0, .ref (o)), (1, .int (x)), (2, .int (x2))]) hx hb dX2_supplyOf_70 hl (k := 3) rfl (nI_c1 _) (by decide) rfl (fun ls hl => ?_)
          refine lv_goto (tgt := 4) hx hb dX2_supplyOf_73 (by decide) ?_
          exact ih (k + 1) x2 (by omega) (by omega) (((br_n c_9 (br_n c_18 (br_n c_28 (br_n c_45 rfl)))) : g_X2_supplyOf_4 σ x fu (k + 1) x2 = g_X2_supplyOf_4 σ x (fu + 1) k x2).trans hg_4) ls (lv_sub hl [2, 3, 0, 4] rfl)
        refine lv_iload hx hb dX2_supplyOf_48 (lv_at hl 0 rfl) ?_
        refine lv_if_eq (tgt := 70) hx hb dX2_supplyOf_50 (by decide) (fun _ => ?_) (fun q => absurd rfl q)
        refine lv_iinc (v := nI (k + 1)) (lv' := [(3, .int (nI (k + 1))), (4, .int (0)), (0, .ref (o)), (1, .int (x)), (2, .int (x2))]) hx hb dX2_supplyOf_70 hl (k := 3) rfl (nI_c1 _) (by decide) rfl (fun ls hl => ?_)
        refine lv_goto (tgt := 4) hx hb dX2_supplyOf_73 (by decide) ?_
        exact ih (k + 1) x2 (by omega) (by omega) (((br_n c_9 (br_n c_18 (br_n c_28 (br_p c_45 rfl)))) : g_X2_supplyOf_4 σ x fu (k + 1) x2 = g_X2_supplyOf_4 σ x (fu + 1) k x2).trans hg_4) ls (lv_sub hl [2, 3, 0, 4] rfl)
      refine lv_iconst (v := 1) hx hb dX2_supplyOf_31 (by decide) ?_
      refine lv_goto (tgt := 36) hx hb dX2_supplyOf_32 (by decide) ?_
      refine lv_istore (lv' := [(4, .int (1)), (0, .ref (o)), (1, .int (x)), (3, .int (nI k)), (2, .int (x2))]) hx hb dX2_supplyOf_36 hl (by decide) rfl (fun ls hl => ?_)
      refine lv_aload_n hx hb dX2_supplyOf_38 rfl (lv_at hl 1 rfl) ?_
      refine sh_g10 hx hb hts hown hK hP dX2_supplyOf_39 ?_
      refine lv_iload_n hx hb dX2_supplyOf_42 rfl (lv_at hl 3 rfl) ?_
      refine sh_r10 hx hb hK hP (k) rfl (by omega) (v := σ 10 k) rfl dX2_supplyOf_43 ?_
      refine lv_iload_n hx hb dX2_supplyOf_44 rfl (lv_at hl 2 rfl) ?_
      refine lv_icmp_ne (tgt := 70) hx hb dX2_supplyOf_45 (by decide) (fun c_45 => ?_) (fun c_45 => ?_)
      · refine lv_iinc (v := nI (k + 1)) (lv' := [(3, .int (nI (k + 1))), (4, .int (1)), (0, .ref (o)), (1, .int (x)), (2, .int (x2))]) hx hb dX2_supplyOf_70 hl (k := 3) rfl (nI_c1 _) (by decide) rfl (fun ls hl => ?_)
        refine lv_goto (tgt := 4) hx hb dX2_supplyOf_73 (by decide) ?_
        exact ih (k + 1) x2 (by omega) (by omega) (((br_n c_9 (br_n c_18 (br_p c_28 (br_n c_45 rfl)))) : g_X2_supplyOf_4 σ x fu (k + 1) x2 = g_X2_supplyOf_4 σ x (fu + 1) k x2).trans hg_4) ls (lv_sub hl [2, 3, 0, 4] rfl)
      refine lv_iload hx hb dX2_supplyOf_48 (lv_at hl 0 rfl) ?_
      refine lv_if_eq (tgt := 70) hx hb dX2_supplyOf_50 (by decide) (fun q => absurd q (by decide)) (fun _ => ?_)
      refine lv_aload_n hx hb dX2_supplyOf_53 rfl (lv_at hl 1 rfl) ?_
      refine lv_iload_n hx hb dX2_supplyOf_54 rfl (lv_at hl 2 rfl) ?_
      refine lv_aload_n hx hb dX2_supplyOf_55 rfl (lv_at hl 1 rfl) ?_
      refine sh_g11 hx hb hts hown hK hP dX2_supplyOf_56 ?_
      refine lv_iload_n hx hb dX2_supplyOf_59 rfl (lv_at hl 3 rfl) ?_
      refine sh_r11 hx hb hK hP (k) rfl (by omega) (v := σ 11 k) rfl dX2_supplyOf_60 ?_
      refine sh_call (rest := []) hx hb hml hown hts hK hP (c_X2_isOfUse l D cI o a σ x (σ 11 k) (by with_reducible assumption)) (kV_X2_isOfUse hts ml_X2_140 ⟨(Nat.le_of_ble_eq_true rfl), (Nat.le_of_ble_eq_true rfl)⟩) rfl hl.1 rfl (Nat.le_of_ble_eq_true rfl) dX2_supplyOf_61 (Nat.zero_le _) (Nat.zero_le _) ?_
      refine lv_if_eq (tgt := 70) hx hb dX2_supplyOf_64 (by decide) (fun c_64 => ?_) (fun c_64 => ?_)
      · refine lv_iinc (v := nI (k + 1)) (lv' := [(3, .int (nI (k + 1))), (4, .int (1)), (0, .ref (o)), (1, .int (x)), (2, .int (x2))]) hx hb dX2_supplyOf_70 hl (k := 3) rfl (nI_c1 _) (by decide) rfl (fun ls hl => ?_)
        refine lv_goto (tgt := 4) hx hb dX2_supplyOf_73 (by decide) ?_
        exact ih (k + 1) x2 (by omega) (by omega) (((br_n c_9 (br_n c_18 (br_p c_28 (br_p c_45 (br_p c_64 rfl))))) : g_X2_supplyOf_4 σ x fu (k + 1) x2 = g_X2_supplyOf_4 σ x (fu + 1) k x2).trans hg_4) ls (lv_sub hl [2, 3, 0, 4] rfl)
      refine lv_iinc (v := x2 + 1) (lv' := [(2, .int (x2 + 1)), (4, .int (1)), (0, .ref (o)), (1, .int (x)), (3, .int (nI k))]) hx hb dX2_supplyOf_67 hl (k := 4) rfl rfl (by decide) rfl (fun ls hl => ?_)
      refine lv_iinc (v := nI (k + 1)) (lv' := [(3, .int (nI (k + 1))), (2, .int (x2 + 1)), (4, .int (1)), (0, .ref (o)), (1, .int (x))]) hx hb dX2_supplyOf_70 hl (k := 4) rfl (nI_c1 _) (by decide) rfl (fun ls hl => ?_)
      refine lv_goto (tgt := 4) hx hb dX2_supplyOf_73 (by decide) ?_
      exact ih (k + 1) (x2 + 1) (by omega) (by omega) (((br_n c_9 (br_n c_18 (br_p c_28 (br_p c_45 (br_n c_64 rfl))))) : g_X2_supplyOf_4 σ x fu (k + 1) (x2 + 1) = g_X2_supplyOf_4 σ x (fu + 1) k x2).trans hg_4) ls (lv_sub hl [3, 4, 0, 1] rfl)
  exact L_4 (nN σ + 1) 0 0 (by omega) (by omega) rfl ls (lv_sub hl [2, 3, 0, 1] rfl)
theorem kV_X2_supplyOf {R : Room} {s : State} {args : Array Value} {own : String} {idx : Nat} {c0 : Cond} (hts : ∀ w ∈ c0 :: W0, w.before args s = true) (hl : Cond.methodLink own idx yX2_supplyOf ∈ W0) (hR : rm_X2_supplyOf.frames + 1 ≤ R.frames ∧ 8 + (5 + 11) + rm_X2_supplyOf.locals ≤ R.locals) : CallW R s args own RX2 idx yX2_supplyOf cX2_supplyOf 5 (some .int) (Cond.code yX2_supplyOf cX2_supplyOf 5 (some .int) :: W0) rm_X2_supplyOf 0 0 1 := cwV 1 hts (gdV hl mi_yX2_supplyOf ms_yX2_supplyOf mini_X2 mc_yX2_supplyOf) rfl rfl rfl (by decide +kernel) hR

/-! X2.demandOf -/
def g_X2_demandOf_4 (σ : Nat → Nat → Int32) (x : Int32) : Nat → (Nat) → (Int32) → Int32
  | 0, k, x2 => x2
  | fu + 1, k, x2 => (if nC σ ≤ k then x2 else (if (σ 7 k) = x then g_X2_demandOf_4 σ x fu (k + 1) (x2 + (σ 9 k)) else g_X2_demandOf_4 σ x fu (k + 1) x2))
def f_X2_demandOf (σ : Nat → Nat → Int32) (x : Int32) : Int32 := (g_X2_demandOf_4 σ x (nC σ + 1) 0 0)
abbrev rm_X2_demandOf : Room := { frames := 0, cells := 0, slots := 0, locals := 0 }
set_option maxRecDepth 100000 in
theorem c_X2_demandOf (l : Launch) (D : va_G) (cI : ClassId) (o : Nat) (a : Nat → Nat) (σ : Nat → Nat → Int32) (x : Int32) (hok : okS σ) :
    Met l yX2_demandOf (Cond.code yX2_demandOf cX2_demandOf 4 (some .int) :: W0) rm_X2_demandOf (va_Pc [.ref o, .int x] (shP D cI o a σ)) (vp_Si (fun r => r = f_X2_demandOf σ x)) 0 0 (fun _ => False) := by
  refine st_gen (cc := cX2_demandOf) (maxL := 4) (ret := some .int) (own := RX2) (by decide) rfl (Nat.le_of_ble_eq_true rfl) ?_
  intro p e s m below meth c ls C hPre hl
  obtain ⟨hx, hb, hr, hml, hown, hts, hlk⟩ := C
  obtain ⟨hP, hK⟩ := hPre
  have hl : lv_has ls 4 [(0, .ref (o)), (1, .int (x))] := hl
  obtain ⟨hT6, hC6, hN6⟩ := okS_b hok
  refine lv_iconst (v := 0) hx hb dX2_demandOf_0 (by decide) ?_
  refine lv_istore_n (lv' := [(2, .int (0)), (0, .ref (o)), (1, .int (x))]) hx hb dX2_demandOf_1 rfl hl (by decide) rfl (fun ls hl => ?_)
  refine lv_iconst (v := 0) hx hb dX2_demandOf_2 (by decide) ?_
  refine lv_istore_n (lv' := [(3, .int (0)), (2, .int (0)), (0, .ref (o)), (1, .int (x))]) hx hb dX2_demandOf_3 rfl hl (by decide) rfl (fun ls hl => ?_)
  have K_37 : ∀ ls, lv_has ls 4 [(0, .ref (o)), (1, .int (x)), (2, .int ((g_X2_demandOf_4 σ x (nC σ + 1) 0 0)))] → W p l e rm_X2_demandOf s m (([.ref (o), .int (x)] : List Value).toArray) below meth c s.heap [] 0 0 (MQ below (vp_Si (fun r => r = f_X2_demandOf σ x)) ([.ref (o), .int (x)] : List Value).toArray s 0 0 (fun _ => False)) (F0 m 37 ls []) := by
    intro ls hl
    refine lv_iload_n hx hb dX2_demandOf_37 rfl (lv_at hl 2 rfl) ?_
    exact fin_i hx hb hr hlk rfl dX2_demandOf_38
  have L_4 : ∀ (fu : Nat) (k : Nat) (x2 : Int32), nC σ - k < fu → k ≤ nC σ → g_X2_demandOf_4 σ x fu k x2 = g_X2_demandOf_4 σ x (nC σ + 1) 0 0 → ∀ ls, lv_has ls 4 [(0, .ref (o)), (1, .int (x)), (3, .int (nI k)), (2, .int (x2))] → W p l e rm_X2_demandOf s m (([.ref (o), .int (x)] : List Value).toArray) below meth c s.heap [] 0 0 (MQ below (vp_Si (fun r => r = f_X2_demandOf σ x)) ([.ref (o), .int (x)] : List Value).toArray s 0 0 (fun _ => False)) (F0 m 4 ls []) := by
    intro fu
    induction fu with
    | zero => intro k x2 hm; exact absurd hm (Nat.not_lt_zero _)
    | succ fu ih =>
      intro k x2 hm hkN hg_4 ls hl
      refine lv_iload_n hx hb dX2_demandOf_4 rfl (lv_at hl 2 rfl) ?_
      refine lv_aload_n hx hb dX2_demandOf_5 rfl (lv_at hl 0 rfl) ?_
      refine sh_g2 hx hb hts hown hK hP (v := σ 2 0) rfl dX2_demandOf_6 ?_
      refine lv_icmp_geN (k) (nC σ) hx hb rfl (okS_2 (σ := σ) (by with_reducible assumption)) (by omega) (by omega) (tgt := 37) dX2_demandOf_9 (by decide) (fun c_9 => ?_) (fun c_9 => ?_)
      · have ex : x2 = g_X2_demandOf_4 σ x (nC σ + 1) 0 0 := ((br_p c_9 rfl) : x2 = g_X2_demandOf_4 σ x (fu + 1) k x2).trans hg_4
        exact K_37 ls (by rw [← ex]; exact lv_sub hl [0, 1, 3] rfl)
      refine lv_aload_n hx hb dX2_demandOf_12 rfl (lv_at hl 0 rfl) ?_
      refine sh_g7 hx hb hts hown hK hP dX2_demandOf_13 ?_
      refine lv_iload_n hx hb dX2_demandOf_16 rfl (lv_at hl 2 rfl) ?_
      refine sh_r7 hx hb hK hP (k) rfl (by omega) (v := σ 7 k) rfl dX2_demandOf_17 ?_
      refine lv_iload_n hx hb dX2_demandOf_18 rfl (lv_at hl 1 rfl) ?_
      refine lv_icmp_ne (tgt := 31) hx hb dX2_demandOf_19 (by decide) (fun c_19 => ?_) (fun c_19 => ?_)
      · refine lv_iinc (v := nI (k + 1)) (lv' := [(3, .int (nI (k + 1))), (0, .ref (o)), (1, .int (x)), (2, .int (x2))]) hx hb dX2_demandOf_31 hl (k := 2) rfl (nI_c1 _) (by decide) rfl (fun ls hl => ?_)
        refine lv_goto (tgt := 4) hx hb dX2_demandOf_34 (by decide) ?_
        exact ih (k + 1) x2 (by omega) (by omega) (((br_n c_9 (br_n c_19 rfl)) : g_X2_demandOf_4 σ x fu (k + 1) x2 = g_X2_demandOf_4 σ x (fu + 1) k x2).trans hg_4) ls (lv_sub hl [1, 2, 0, 3] rfl)
      refine lv_iload_n hx hb dX2_demandOf_22 rfl (lv_at hl 3 rfl) ?_
      refine lv_aload_n hx hb dX2_demandOf_23 rfl (lv_at hl 0 rfl) ?_
      refine sh_g9 hx hb hts hown hK hP dX2_demandOf_24 ?_
      refine lv_iload_n hx hb dX2_demandOf_27 rfl (lv_at hl 2 rfl) ?_
      refine sh_r9 hx hb hK hP (k) rfl (by omega) (v := σ 9 k) rfl dX2_demandOf_28 ?_
      refine lv_iadd hx hb dX2_demandOf_29 ?_
      refine lv_istore_n (lv' := [(2, .int (x2 + (σ 9 k))), (0, .ref (o)), (1, .int (x)), (3, .int (nI k))]) hx hb dX2_demandOf_30 rfl hl (by decide) rfl (fun ls hl => ?_)
      refine lv_iinc (v := nI (k + 1)) (lv' := [(3, .int (nI (k + 1))), (2, .int (x2 + (σ 9 k))), (0, .ref (o)), (1, .int (x))]) hx hb dX2_demandOf_31 hl (k := 3) rfl (nI_c1 _) (by decide) rfl (fun ls hl => ?_)
      refine lv_goto (tgt := 4) hx hb dX2_demandOf_34 (by decide) ?_
      exact ih (k + 1) (x2 + (σ 9 k)) (by omega) (by omega) (((br_n c_9 (br_p c_19 rfl)) : g_X2_demandOf_4 σ x fu (k + 1) (x2 + (σ 9 k)) = g_X2_demandOf_4 σ x (fu + 1) k x2).trans hg_4) ls (lv_sub hl [2, 3, 0, 1] rfl)
  exact L_4 (nC σ + 1) 0 0 (by omega) (by omega) rfl ls (lv_sub hl [2, 3, 0, 1] rfl)
theorem kV_X2_demandOf {R : Room} {s : State} {args : Array Value} {own : String} {idx : Nat} {c0 : Cond} (hts : ∀ w ∈ c0 :: W0, w.before args s = true) (hl : Cond.methodLink own idx yX2_demandOf ∈ W0) (hR : rm_X2_demandOf.frames + 1 ≤ R.frames ∧ 8 + (4 + 11) + rm_X2_demandOf.locals ≤ R.locals) : CallW R s args own RX2 idx yX2_demandOf cX2_demandOf 4 (some .int) (Cond.code yX2_demandOf cX2_demandOf 4 (some .int) :: W0) rm_X2_demandOf 0 0 1 := cwV 1 hts (gdV hl mi_yX2_demandOf ms_yX2_demandOf mini_X2 mc_yX2_demandOf) rfl rfl rfl (by decide +kernel) hR

/-! X2.worthBy -/
def f_X2_worthBy (σ : Nat → Nat → Int32) (t : Nat) (y : Int32) (z : Int32) (w : Int32) : Int32 := (((σ 5 t) * (100 - (20 * w))) / 100) - (((((σ 5 t) * (100 - (20 * w))) / 100) * (if ((σ 4 3) * (if 0 < (y - z) then (y - z) else 0)) < 100 then ((σ 4 3) * (if 0 < (y - z) then (y - z) else 0)) else 100)) / 100)
abbrev rm_X2_worthBy : Room := { frames := 1, cells := 0, slots := 0, locals := 21 }
set_option maxRecDepth 100000 in
theorem c_X2_worthBy (l : Launch) (D : va_G) (cI : ClassId) (o : Nat) (a : Nat → Nat) (σ : Nat → Nat → Int32) (x : Int32) (t : Nat) (hx : x = nI t) (y : Int32) (z : Int32) (w : Int32) (ht : t < 6) :
    Met l yX2_worthBy (Cond.code yX2_worthBy cX2_worthBy 8 (some .int) :: W0) rm_X2_worthBy (va_Pc [.ref o, .int x, .int y, .int z, .int w] (shP D cI o a σ)) (vp_Si (fun r => r = f_X2_worthBy σ t y z w)) 0 0 (fun _ => False) := by
  subst hx
  refine st_gen (cc := cX2_worthBy) (maxL := 8) (ret := some .int) (own := RX2) (by decide) rfl (Nat.le_of_ble_eq_true rfl) ?_
  intro p e s m below meth c ls C hPre hl
  obtain ⟨hx, hb, hr, hml, hown, hts, hlk⟩ := C
  obtain ⟨hP, hK⟩ := hPre
  have hl : lv_has ls 8 [(0, .ref (o)), (1, .int (nI t)), (2, .int (y)), (3, .int (z)), (4, .int (w))] := hl
  refine lv_aload_n hx hb dX2_worthBy_0 rfl (lv_at hl 0 rfl) ?_
  refine sh_g5 hx hb hts hown hK hP dX2_worthBy_1 ?_
  refine lv_iload_n hx hb dX2_worthBy_4 rfl (lv_at hl 1 rfl) ?_
  refine sh_r5 hx hb hK hP (t) rfl (by omega) (v := σ 5 t) rfl dX2_worthBy_5 ?_
  refine lv_bipush (v := 100) hx hb dX2_worthBy_6 (by decide) ?_
  refine lv_bipush (v := 20) hx hb dX2_worthBy_8 (by decide) ?_
  refine lv_iload hx hb dX2_worthBy_10 (lv_at hl 4 rfl) ?_
  refine lv_imul hx hb dX2_worthBy_12 ?_
  refine lv_isub hx hb dX2_worthBy_13 ?_
  refine lv_imul hx hb dX2_worthBy_14 ?_
  refine lv_bipush (v := 100) hx hb dX2_worthBy_15 (by decide) ?_
  refine lv_idiv hx hb dX2_worthBy_17 (by decide) ?_
  refine lv_istore (lv' := [(5, .int (((σ 5 t) * (100 - (20 * w))) / 100)), (0, .ref (o)), (1, .int (nI t)), (2, .int (y)), (3, .int (z)), (4, .int (w))]) hx hb dX2_worthBy_18 hl (by decide) rfl (fun ls hl => ?_)
  refine lv_iconst (v := 0) hx hb dX2_worthBy_20 (by decide) ?_
  refine lv_iload_n hx hb dX2_worthBy_21 rfl (lv_at hl 3 rfl) ?_
  refine lv_iload_n hx hb dX2_worthBy_22 rfl (lv_at hl 4 rfl) ?_
  refine lv_isub hx hb dX2_worthBy_23 ?_
  refine r_max hx hb hml hown hts hl.1 ml_X2_116 (Nat.le_of_ble_eq_true rfl) (Nat.le_of_ble_eq_true rfl) (Nat.zero_le _) (Nat.zero_le _) (rest := []) dX2_worthBy_24 ?_
  refine lv_istore (lv' := [(6, .int (if 0 < (y - z) then (y - z) else 0)), (5, .int (((σ 5 t) * (100 - (20 * w))) / 100)), (0, .ref (o)), (1, .int (nI t)), (2, .int (y)), (3, .int (z)), (4, .int (w))]) hx hb dX2_worthBy_27 hl (by decide) rfl (fun ls hl => ?_)
  refine lv_bipush (v := 100) hx hb dX2_worthBy_29 (by decide) ?_
  refine lv_aload_n hx hb dX2_worthBy_31 rfl (lv_at hl 2 rfl) ?_
  refine sh_g4 hx hb hts hown hK hP dX2_worthBy_32 ?_
  refine lv_iconst (v := 3) hx hb dX2_worthBy_35 (by decide) ?_
  refine sh_r4 hx hb hK hP (3) rfl (by omega) (v := σ 4 3) rfl dX2_worthBy_36 ?_
  refine lv_iload hx hb dX2_worthBy_37 (lv_at hl 0 rfl) ?_
  refine lv_imul hx hb dX2_worthBy_39 ?_
  refine r_min hx hb hml hown hts hl.1 ml_X2_71 (Nat.le_of_ble_eq_true rfl) (Nat.le_of_ble_eq_true rfl) (Nat.zero_le _) (Nat.zero_le _) (rest := []) dX2_worthBy_40 ?_
  refine lv_istore (lv' := [(7, .int (if ((σ 4 3) * (if 0 < (y - z) then (y - z) else 0)) < 100 then ((σ 4 3) * (if 0 < (y - z) then (y - z) else 0)) else 100)), (6, .int (if 0 < (y - z) then (y - z) else 0)), (5, .int (((σ 5 t) * (100 - (20 * w))) / 100)), (0, .ref (o)), (1, .int (nI t)), (2, .int (y)), (3, .int (z)), (4, .int (w))]) hx hb dX2_worthBy_43 hl (by decide) rfl (fun ls hl => ?_)
  refine lv_iload hx hb dX2_worthBy_45 (lv_at hl 2 rfl) ?_
  refine lv_iload hx hb dX2_worthBy_47 (lv_at hl 2 rfl) ?_
  refine lv_iload hx hb dX2_worthBy_49 (lv_at hl 0 rfl) ?_
  refine lv_imul hx hb dX2_worthBy_51 ?_
  refine lv_bipush (v := 100) hx hb dX2_worthBy_52 (by decide) ?_
  refine lv_idiv hx hb dX2_worthBy_54 (by decide) ?_
  refine lv_isub hx hb dX2_worthBy_55 ?_
  exact fin_i hx hb hr hlk rfl dX2_worthBy_56
theorem kV_X2_worthBy {R : Room} {s : State} {args : Array Value} {own : String} {idx : Nat} {c0 : Cond} (hts : ∀ w ∈ c0 :: W0, w.before args s = true) (hl : Cond.methodLink own idx yX2_worthBy ∈ W0) (hR : rm_X2_worthBy.frames + 1 ≤ R.frames ∧ 8 + (8 + 11) + rm_X2_worthBy.locals ≤ R.locals) : CallW R s args own RX2 idx yX2_worthBy cX2_worthBy 8 (some .int) (Cond.code yX2_worthBy cX2_worthBy 8 (some .int) :: W0) rm_X2_worthBy 0 0 4 := cwV 4 hts (gdV hl mi_yX2_worthBy ms_yX2_worthBy mini_X2 mc_yX2_worthBy) rfl rfl rfl (by decide +kernel) hR

/-! X2.worthOf -/
def f_X2_worthOf (σ : Nat → Nat → Int32) (k : Nat) : Int32 := (f_X2_worthBy σ (tOf σ k) (σ 6 (tOf σ k)) (σ 11 k) (σ 12 k))
abbrev rm_X2_worthOf : Room := { frames := 2, cells := 0, slots := 0, locals := 48 }
set_option maxRecDepth 100000 in
theorem c_X2_worthOf (l : Launch) (D : va_G) (cI : ClassId) (o : Nat) (a : Nat → Nat) (σ : Nat → Nat → Int32) (x : Int32) (k : Nat) (hx : x = nI k) (hok : okS σ) (hk : k < nN σ) :
    Met l yX2_worthOf (Cond.code yX2_worthOf cX2_worthOf 3 (some .int) :: W0) rm_X2_worthOf (va_Pc [.ref o, .int x] (shP D cI o a σ)) (vp_Si (fun r => r = f_X2_worthOf σ k)) 0 0 (fun _ => False) := by
  subst hx
  refine st_gen (cc := cX2_worthOf) (maxL := 3) (ret := some .int) (own := RX2) (by decide) rfl (Nat.le_of_ble_eq_true rfl) ?_
  intro p e s m below meth c ls C hPre hl
  obtain ⟨hx, hb, hr, hml, hown, hts, hlk⟩ := C
  obtain ⟨hP, hK⟩ := hPre
  have hl : lv_has ls 3 [(0, .ref (o)), (1, .int (nI k))] := hl
  obtain ⟨hT6, hC6, hN6⟩ := okS_b hok
  refine lv_aload_n hx hb dX2_worthOf_0 rfl (lv_at hl 0 rfl) ?_
  refine sh_g10 hx hb hts hown hK hP dX2_worthOf_1 ?_
  refine lv_iload_n hx hb dX2_worthOf_4 rfl (lv_at hl 1 rfl) ?_
  refine sh_r10 hx hb hK hP (k) rfl (by omega) (v := σ 10 k) rfl dX2_worthOf_5 ?_
  refine lv_istore_n (lv' := [(2, .int (σ 10 k)), (0, .ref (o)), (1, .int (nI k))]) hx hb dX2_worthOf_6 rfl hl (by decide) rfl (fun ls hl => ?_)
  refine lv_aload_n hx hb dX2_worthOf_7 rfl (lv_at hl 1 rfl) ?_
  refine lv_iload_n hx hb dX2_worthOf_8 rfl (lv_at hl 0 rfl) ?_
  refine lv_aload_n hx hb dX2_worthOf_9 rfl (lv_at hl 1 rfl) ?_
  refine sh_g6 hx hb hts hown hK hP dX2_worthOf_10 ?_
  refine lv_iload_n hx hb dX2_worthOf_13 rfl (lv_at hl 0 rfl) ?_
  have := (okS_t (σ := σ) (by with_reducible assumption) (k := k) (by omega)).2
  refine sh_r6 hx hb hK hP (tOf σ k) (okS_t (σ := σ) (by with_reducible assumption) (k := k) (by omega)).1 (by omega) (v := σ 6 (tOf σ k)) rfl dX2_worthOf_14 ?_
  refine lv_aload_n hx hb dX2_worthOf_15 rfl (lv_at hl 1 rfl) ?_
  refine sh_g11 hx hb hts hown hK hP dX2_worthOf_16 ?_
  refine lv_iload_n hx hb dX2_worthOf_19 rfl (lv_at hl 2 rfl) ?_
  refine sh_r11 hx hb hK hP (k) rfl (by omega) (v := σ 11 k) rfl dX2_worthOf_20 ?_
  refine lv_aload_n hx hb dX2_worthOf_21 rfl (lv_at hl 1 rfl) ?_
  refine sh_g12 hx hb hts hown hK hP dX2_worthOf_22 ?_
  refine lv_iload_n hx hb dX2_worthOf_25 rfl (lv_at hl 2 rfl) ?_
  refine sh_r12 hx hb hK hP (k) rfl (by omega) (v := σ 12 k) rfl dX2_worthOf_26 ?_
  have := (okS_t (σ := σ) (by with_reducible assumption) (k := k) (by omega)).2
  refine sh_call (rest := []) hx hb hml hown hts hK hP (c_X2_worthBy l D cI o a σ (σ 10 k) (tOf σ k) ((okS_t (σ := σ) (by with_reducible assumption) (k := k) (by omega)).1) (σ 6 (tOf σ k)) (σ 11 k) (σ 12 k) (by first | with_reducible assumption | omega)) (kV_X2_worthBy hts ml_X2_164 ⟨(Nat.le_of_ble_eq_true rfl), (Nat.le_of_ble_eq_true rfl)⟩) rfl hl.1 rfl (Nat.le_of_ble_eq_true rfl) dX2_worthOf_27 (Nat.zero_le _) (Nat.zero_le _) ?_
  exact fin_i hx hb hr hlk rfl dX2_worthOf_30
theorem kV_X2_worthOf {R : Room} {s : State} {args : Array Value} {own : String} {idx : Nat} {c0 : Cond} (hts : ∀ w ∈ c0 :: W0, w.before args s = true) (hl : Cond.methodLink own idx yX2_worthOf ∈ W0) (hR : rm_X2_worthOf.frames + 1 ≤ R.frames ∧ 8 + (3 + 11) + rm_X2_worthOf.locals ≤ R.locals) : CallW R s args own RX2 idx yX2_worthOf cX2_worthOf 3 (some .int) (Cond.code yX2_worthOf cX2_worthOf 3 (some .int) :: W0) rm_X2_worthOf 0 0 1 := cwV 1 hts (gdV hl mi_yX2_worthOf ms_yX2_worthOf mini_X2 mc_yX2_worthOf) rfl rfl rfl (by decide +kernel) hR

/-! X2.worthWithGrade -/
def f_X2_worthWithGrade (σ : Nat → Nat → Int32) (k : Nat) (y : Int32) : Int32 := (f_X2_worthBy σ (tOf σ k) (σ 6 (tOf σ k)) (σ 11 k) y)
abbrev rm_X2_worthWithGrade : Room := { frames := 2, cells := 0, slots := 0, locals := 48 }
set_option maxRecDepth 100000 in
theorem c_X2_worthWithGrade (l : Launch) (D : va_G) (cI : ClassId) (o : Nat) (a : Nat → Nat) (σ : Nat → Nat → Int32) (x : Int32) (k : Nat) (hx : x = nI k) (y : Int32) (hok : okS σ) (hk : k < nN σ) :
    Met l yX2_worthWithGrade (Cond.code yX2_worthWithGrade cX2_worthWithGrade 4 (some .int) :: W0) rm_X2_worthWithGrade (va_Pc [.ref o, .int x, .int y] (shP D cI o a σ)) (vp_Si (fun r => r = f_X2_worthWithGrade σ k y)) 0 0 (fun _ => False) := by
  subst hx
  refine st_gen (cc := cX2_worthWithGrade) (maxL := 4) (ret := some .int) (own := RX2) (by decide) rfl (Nat.le_of_ble_eq_true rfl) ?_
  intro p e s m below meth c ls C hPre hl
  obtain ⟨hx, hb, hr, hml, hown, hts, hlk⟩ := C
  obtain ⟨hP, hK⟩ := hPre
  have hl : lv_has ls 4 [(0, .ref (o)), (1, .int (nI k)), (2, .int (y))] := hl
  obtain ⟨hT6, hC6, hN6⟩ := okS_b hok
  refine lv_aload_n hx hb dX2_worthWithGrade_0 rfl (lv_at hl 0 rfl) ?_
  refine sh_g10 hx hb hts hown hK hP dX2_worthWithGrade_1 ?_
  refine lv_iload_n hx hb dX2_worthWithGrade_4 rfl (lv_at hl 1 rfl) ?_
  refine sh_r10 hx hb hK hP (k) rfl (by omega) (v := σ 10 k) rfl dX2_worthWithGrade_5 ?_
  refine lv_istore_n (lv' := [(3, .int (σ 10 k)), (0, .ref (o)), (1, .int (nI k)), (2, .int (y))]) hx hb dX2_worthWithGrade_6 rfl hl (by decide) rfl (fun ls hl => ?_)
  refine lv_aload_n hx hb dX2_worthWithGrade_7 rfl (lv_at hl 1 rfl) ?_
  refine lv_iload_n hx hb dX2_worthWithGrade_8 rfl (lv_at hl 0 rfl) ?_
  refine lv_aload_n hx hb dX2_worthWithGrade_9 rfl (lv_at hl 1 rfl) ?_
  refine sh_g6 hx hb hts hown hK hP dX2_worthWithGrade_10 ?_
  refine lv_iload_n hx hb dX2_worthWithGrade_13 rfl (lv_at hl 0 rfl) ?_
  have := (okS_t (σ := σ) (by with_reducible assumption) (k := k) (by omega)).2
  refine sh_r6 hx hb hK hP (tOf σ k) (okS_t (σ := σ) (by with_reducible assumption) (k := k) (by omega)).1 (by omega) (v := σ 6 (tOf σ k)) rfl dX2_worthWithGrade_14 ?_
  refine lv_aload_n hx hb dX2_worthWithGrade_15 rfl (lv_at hl 1 rfl) ?_
  refine sh_g11 hx hb hts hown hK hP dX2_worthWithGrade_16 ?_
  refine lv_iload_n hx hb dX2_worthWithGrade_19 rfl (lv_at hl 2 rfl) ?_
  refine sh_r11 hx hb hK hP (k) rfl (by omega) (v := σ 11 k) rfl dX2_worthWithGrade_20 ?_
  refine lv_iload_n hx hb dX2_worthWithGrade_21 rfl (lv_at hl 3 rfl) ?_
  have := (okS_t (σ := σ) (by with_reducible assumption) (k := k) (by omega)).2
  refine sh_call (rest := []) hx hb hml hown hts hK hP (c_X2_worthBy l D cI o a σ (σ 10 k) (tOf σ k) ((okS_t (σ := σ) (by with_reducible assumption) (k := k) (by omega)).1) (σ 6 (tOf σ k)) (σ 11 k) y (by first | with_reducible assumption | omega)) (kV_X2_worthBy hts ml_X2_164 ⟨(Nat.le_of_ble_eq_true rfl), (Nat.le_of_ble_eq_true rfl)⟩) rfl hl.1 rfl (Nat.le_of_ble_eq_true rfl) dX2_worthWithGrade_22 (Nat.zero_le _) (Nat.zero_le _) ?_
  exact fin_i hx hb hr hlk rfl dX2_worthWithGrade_25
theorem kV_X2_worthWithGrade {R : Room} {s : State} {args : Array Value} {own : String} {idx : Nat} {c0 : Cond} (hts : ∀ w ∈ c0 :: W0, w.before args s = true) (hl : Cond.methodLink own idx yX2_worthWithGrade ∈ W0) (hR : rm_X2_worthWithGrade.frames + 1 ≤ R.frames ∧ 8 + (4 + 11) + rm_X2_worthWithGrade.locals ≤ R.locals) : CallW R s args own RX2 idx yX2_worthWithGrade cX2_worthWithGrade 4 (some .int) (Cond.code yX2_worthWithGrade cX2_worthWithGrade 4 (some .int) :: W0) rm_X2_worthWithGrade 0 0 2 := cwV 2 hts (gdV hl mi_yX2_worthWithGrade ms_yX2_worthWithGrade mini_X2 mc_yX2_worthWithGrade) rfl rfl rfl (by decide +kernel) hR

/-! X2.rentCost -/
def f_X2_rentCost (σ : Nat → Nat → Int32) (k : Nat) : Int32 := ((f_X2_worthOf σ k) * 30) / 100
abbrev rm_X2_rentCost : Room := { frames := 3, cells := 0, slots := 0, locals := 70 }
set_option maxRecDepth 100000 in
theorem c_X2_rentCost (l : Launch) (D : va_G) (cI : ClassId) (o : Nat) (a : Nat → Nat) (σ : Nat → Nat → Int32) (x : Int32) (k : Nat) (hx : x = nI k) (hok : okS σ) (hk : k < nN σ) :
    Met l yX2_rentCost (Cond.code yX2_rentCost cX2_rentCost 2 (some .int) :: W0) rm_X2_rentCost (va_Pc [.ref o, .int x] (shP D cI o a σ)) (vp_Si (fun r => r = f_X2_rentCost σ k)) 0 0 (fun _ => False) := by
  subst hx
  refine st_gen (cc := cX2_rentCost) (maxL := 2) (ret := some .int) (own := RX2) (by decide) rfl (Nat.le_of_ble_eq_true rfl) ?_
  intro p e s m below meth c ls C hPre hl
  obtain ⟨hx, hb, hr, hml, hown, hts, hlk⟩ := C
  obtain ⟨hP, hK⟩ := hPre
  have hl : lv_has ls 2 [(0, .ref (o)), (1, .int (nI k))] := hl
  obtain ⟨hT6, hC6, hN6⟩ := okS_b hok
  refine lv_aload_n hx hb dX2_rentCost_0 rfl (lv_at hl 0 rfl) ?_
  refine lv_iload_n hx hb dX2_rentCost_1 rfl (lv_at hl 1 rfl) ?_
  refine sh_call (rest := []) hx hb hml hown hts hK hP (c_X2_worthOf l D cI o a σ (nI k) k rfl (by with_reducible assumption) (by first | with_reducible assumption | omega)) (kV_X2_worthOf hts ml_X2_131 ⟨(Nat.le_of_ble_eq_true rfl), (Nat.le_of_ble_eq_true rfl)⟩) rfl hl.1 rfl (Nat.le_of_ble_eq_true rfl) dX2_rentCost_2 (Nat.zero_le _) (Nat.zero_le _) ?_
  refine lv_bipush (v := 30) hx hb dX2_rentCost_5 (by decide) ?_
  refine lv_imul hx hb dX2_rentCost_7 ?_
  refine lv_bipush (v := 100) hx hb dX2_rentCost_8 (by decide) ?_
  refine lv_idiv hx hb dX2_rentCost_10 (by decide) ?_
  exact fin_i hx hb hr hlk rfl dX2_rentCost_11
theorem kV_X2_rentCost {R : Room} {s : State} {args : Array Value} {own : String} {idx : Nat} {c0 : Cond} (hts : ∀ w ∈ c0 :: W0, w.before args s = true) (hl : Cond.methodLink own idx yX2_rentCost ∈ W0) (hR : rm_X2_rentCost.frames + 1 ≤ R.frames ∧ 8 + (2 + 11) + rm_X2_rentCost.locals ≤ R.locals) : CallW R s args own RX2 idx yX2_rentCost cX2_rentCost 2 (some .int) (Cond.code yX2_rentCost cX2_rentCost 2 (some .int) :: W0) rm_X2_rentCost 0 0 1 := cwV 1 hts (gdV hl mi_yX2_rentCost ms_yX2_rentCost mini_X2 mc_yX2_rentCost) rfl rfl rfl (by decide +kernel) hR

/-! X2.saleCost -/
def f_X2_saleCost (σ : Nat → Nat → Int32) (k : Nat) : Int32 := ((f_X2_worthOf σ k) * 75) / 100
abbrev rm_X2_saleCost : Room := { frames := 3, cells := 0, slots := 0, locals := 70 }
set_option maxRecDepth 100000 in
theorem c_X2_saleCost (l : Launch) (D : va_G) (cI : ClassId) (o : Nat) (a : Nat → Nat) (σ : Nat → Nat → Int32) (x : Int32) (k : Nat) (hx : x = nI k) (hok : okS σ) (hk : k < nN σ) :
    Met l yX2_saleCost (Cond.code yX2_saleCost cX2_saleCost 2 (some .int) :: W0) rm_X2_saleCost (va_Pc [.ref o, .int x] (shP D cI o a σ)) (vp_Si (fun r => r = f_X2_saleCost σ k)) 0 0 (fun _ => False) := by
  subst hx
  refine st_gen (cc := cX2_saleCost) (maxL := 2) (ret := some .int) (own := RX2) (by decide) rfl (Nat.le_of_ble_eq_true rfl) ?_
  intro p e s m below meth c ls C hPre hl
  obtain ⟨hx, hb, hr, hml, hown, hts, hlk⟩ := C
  obtain ⟨hP, hK⟩ := hPre
  have hl : lv_has ls 2 [(0, .ref (o)), (1, .int (nI k))] := hl
  obtain ⟨hT6, hC6, hN6⟩ := okS_b hok
  refine lv_aload_n hx hb dX2_saleCost_0 rfl (lv_at hl 0 rfl) ?_
  refine lv_iload_n hx hb dX2_saleCost_1 rfl (lv_at hl 1 rfl) ?_
  refine sh_call (rest := []) hx hb hml hown hts hK hP (c_X2_worthOf l D cI o a σ (nI k) k rfl (by with_reducible assumption) (by first | with_reducible assumption | omega)) (kV_X2_worthOf hts ml_X2_131 ⟨(Nat.le_of_ble_eq_true rfl), (Nat.le_of_ble_eq_true rfl)⟩) rfl hl.1 rfl (Nat.le_of_ble_eq_true rfl) dX2_saleCost_2 (Nat.zero_le _) (Nat.zero_le _) ?_
  refine lv_bipush (v := 75) hx hb dX2_saleCost_5 (by decide) ?_
  refine lv_imul hx hb dX2_saleCost_7 ?_
  refine lv_bipush (v := 100) hx hb dX2_saleCost_8 (by decide) ?_
  refine lv_idiv hx hb dX2_saleCost_10 (by decide) ?_
  exact fin_i hx hb hr hlk rfl dX2_saleCost_11
theorem kV_X2_saleCost {R : Room} {s : State} {args : Array Value} {own : String} {idx : Nat} {c0 : Cond} (hts : ∀ w ∈ c0 :: W0, w.before args s = true) (hl : Cond.methodLink own idx yX2_saleCost ∈ W0) (hR : rm_X2_saleCost.frames + 1 ≤ R.frames ∧ 8 + (2 + 11) + rm_X2_saleCost.locals ≤ R.locals) : CallW R s args own RX2 idx yX2_saleCost cX2_saleCost 2 (some .int) (Cond.code yX2_saleCost cX2_saleCost 2 (some .int) :: W0) rm_X2_saleCost 0 0 1 := cwV 1 hts (gdV hl mi_yX2_saleCost ms_yX2_saleCost mini_X2 mc_yX2_saleCost) rfl rfl rfl (by decide +kernel) hR

/-! X2.daysLate -/
def f_X2_daysLate (σ : Nat → Nat → Int32) (k : Nat) : Int32 := if 0 < ((σ 0 0) - (σ 15 k)) then ((σ 0 0) - (σ 15 k)) else 0
abbrev rm_X2_daysLate : Room := { frames := 1, cells := 0, slots := 0, locals := 21 }
set_option maxRecDepth 100000 in
theorem c_X2_daysLate (l : Launch) (D : va_G) (cI : ClassId) (o : Nat) (a : Nat → Nat) (σ : Nat → Nat → Int32) (x : Int32) (k : Nat) (hx : x = nI k) (hok : okS σ) (hk : k < nN σ) :
    Met l yX2_daysLate (Cond.code yX2_daysLate cX2_daysLate 2 (some .int) :: W0) rm_X2_daysLate (va_Pc [.ref o, .int x] (shP D cI o a σ)) (vp_Si (fun r => r = f_X2_daysLate σ k)) 0 0 (fun _ => False) := by
  subst hx
  refine st_gen (cc := cX2_daysLate) (maxL := 2) (ret := some .int) (own := RX2) (by decide) rfl (Nat.le_of_ble_eq_true rfl) ?_
  intro p e s m below meth c ls C hPre hl
  obtain ⟨hx, hb, hr, hml, hown, hts, hlk⟩ := C
  obtain ⟨hP, hK⟩ := hPre
  have hl : lv_has ls 2 [(0, .ref (o)), (1, .int (nI k))] := hl
  obtain ⟨hT6, hC6, hN6⟩ := okS_b hok
  refine lv_iconst (v := 0) hx hb dX2_daysLate_0 (by decide) ?_
  refine lv_aload_n hx hb dX2_daysLate_1 rfl (lv_at hl 0 rfl) ?_
  refine sh_g0 hx hb hts hown hK hP (v := σ 0 0) rfl dX2_daysLate_2 ?_
  refine lv_aload_n hx hb dX2_daysLate_5 rfl (lv_at hl 0 rfl) ?_
  refine sh_g15 hx hb hts hown hK hP dX2_daysLate_6 ?_
  refine lv_iload_n hx hb dX2_daysLate_9 rfl (lv_at hl 1 rfl) ?_
  refine sh_r15 hx hb hK hP (k) rfl (by omega) (v := σ 15 k) rfl dX2_daysLate_10 ?_
  refine lv_isub hx hb dX2_daysLate_11 ?_
  refine r_max hx hb hml hown hts hl.1 ml_X2_116 (Nat.le_of_ble_eq_true rfl) (Nat.le_of_ble_eq_true rfl) (Nat.zero_le _) (Nat.zero_le _) (rest := []) dX2_daysLate_12 ?_
  exact fin_i hx hb hr hlk rfl dX2_daysLate_15
theorem kV_X2_daysLate {R : Room} {s : State} {args : Array Value} {own : String} {idx : Nat} {c0 : Cond} (hts : ∀ w ∈ c0 :: W0, w.before args s = true) (hl : Cond.methodLink own idx yX2_daysLate ∈ W0) (hR : rm_X2_daysLate.frames + 1 ≤ R.frames ∧ 8 + (2 + 11) + rm_X2_daysLate.locals ≤ R.locals) : CallW R s args own RX2 idx yX2_daysLate cX2_daysLate 2 (some .int) (Cond.code yX2_daysLate cX2_daysLate 2 (some .int) :: W0) rm_X2_daysLate 0 0 1 := cwV 1 hts (gdV hl mi_yX2_daysLate ms_yX2_daysLate mini_X2 mc_yX2_daysLate) rfl rfl rfl (by decide +kernel) hR

/-! X2.isLostOn -/
def f_X2_isLostOn (σ : Nat → Nat → Int32) (k : Nat) (y : Int32) : Int32 := (if (σ 13 k) = 1 then (if (y - (σ 15 k)) ≤ (σ 4 2) then 0 else 1) else 0)
abbrev rm_X2_isLostOn : Room := { frames := 0, cells := 0, slots := 0, locals := 0 }
set_option maxRecDepth 100000 in
theorem c_X2_isLostOn (l : Launch) (D : va_G) (cI : ClassId) (o : Nat) (a : Nat → Nat) (σ : Nat → Nat → Int32) (x : Int32) (k : Nat) (hx : x = nI k) (y : Int32) (hok : okS σ) (hk : k < nN σ) :
    Met l yX2_isLostOn (Cond.code yX2_isLostOn cX2_isLostOn 3 (some .boolean) :: W0) rm_X2_isLostOn (va_Pc [.ref o, .int x, .int y] (shP D cI o a σ)) (vp_Si (fun r => r = f_X2_isLostOn σ k y)) 0 0 (fun _ => False) := by
  subst hx
  refine st_gen (cc := cX2_isLostOn) (maxL := 3) (ret := some .boolean) (own := RX2) (by decide) rfl (Nat.le_of_ble_eq_true rfl) ?_
  intro p e s m below meth c ls C hPre hl
  obtain ⟨hx, hb, hr, hml, hown, hts, hlk⟩ := C
  obtain ⟨hP, hK⟩ := hPre
  have hl : lv_has ls 3 [(0, .ref (o)), (1, .int (nI k)), (2, .int (y))] := hl
  obtain ⟨hT6, hC6, hN6⟩ := okS_b hok
  refine lv_aload_n hx hb dX2_isLostOn_0 rfl (lv_at hl 0 rfl) ?_
  refine sh_g13 hx hb hts hown hK hP dX2_isLostOn_1 ?_
  refine lv_iload_n hx hb dX2_isLostOn_4 rfl (lv_at hl 1 rfl) ?_
  refine sh_r13 hx hb hK hP (k) rfl (by omega) (v := σ 13 k) rfl dX2_isLostOn_5 ?_
  refine lv_iconst (v := 1) hx hb dX2_isLostOn_6 (by decide) ?_
  refine lv_icmp_ne (tgt := 31) hx hb dX2_isLostOn_7 (by decide) (fun c_7 => ?_) (fun c_7 => ?_)
  · refine lv_iconst (v := 0) hx hb dX2_isLostOn_31 (by decide) ?_
    exact fin_z hx hb hr hlk (Or.inl rfl) (br_n c_7 rfl) dX2_isLostOn_32
  refine lv_iload_n hx hb dX2_isLostOn_10 rfl (lv_at hl 2 rfl) ?_
  refine lv_aload_n hx hb dX2_isLostOn_11 rfl (lv_at hl 0 rfl) ?_
  refine sh_g15 hx hb hts hown hK hP dX2_isLostOn_12 ?_
  refine lv_iload_n hx hb dX2_isLostOn_15 rfl (lv_at hl 1 rfl) ?_
  refine sh_r15 hx hb hK hP (k) rfl (by omega) (v := σ 15 k) rfl dX2_isLostOn_16 ?_
  refine lv_isub hx hb dX2_isLostOn_17 ?_
  refine lv_aload_n hx hb dX2_isLostOn_18 rfl (lv_at hl 0 rfl) ?_
  refine sh_g4 hx hb hts hown hK hP dX2_isLostOn_19 ?_
  refine lv_iconst (v := 2) hx hb dX2_isLostOn_22 (by decide) ?_
  refine sh_r4 hx hb hK hP (2) rfl (by omega) (v := σ 4 2) rfl dX2_isLostOn_23 ?_
  refine lv_icmp_le (tgt := 31) hx hb dX2_isLostOn_24 (by decide) (fun c_24 => ?_) (fun c_24 => ?_)
  · refine lv_iconst (v := 0) hx hb dX2_isLostOn_31 (by decide) ?_
    exact fin_z hx hb hr hlk (Or.inl rfl) (br_p c_7 (br_p c_24 rfl)) dX2_isLostOn_32
  refine lv_iconst (v := 1) hx hb dX2_isLostOn_27 (by decide) ?_
  refine lv_goto (tgt := 32) hx hb dX2_isLostOn_28 (by decide) ?_
  exact fin_z hx hb hr hlk (Or.inr rfl) (br_p c_7 (br_n c_24 rfl)) dX2_isLostOn_32
theorem kV_X2_isLostOn {R : Room} {s : State} {args : Array Value} {own : String} {idx : Nat} {c0 : Cond} (hts : ∀ w ∈ c0 :: W0, w.before args s = true) (hl : Cond.methodLink own idx yX2_isLostOn ∈ W0) (hR : rm_X2_isLostOn.frames + 1 ≤ R.frames ∧ 8 + (3 + 11) + rm_X2_isLostOn.locals ≤ R.locals) : CallW R s args own RX2 idx yX2_isLostOn cX2_isLostOn 3 (some .boolean) (Cond.code yX2_isLostOn cX2_isLostOn 3 (some .boolean) :: W0) rm_X2_isLostOn 0 0 2 := cwV 2 hts (gdV hl mi_yX2_isLostOn ms_yX2_isLostOn mini_X2 mc_yX2_isLostOn) rfl rfl rfl (by decide +kernel) hR

theorem z_X2_isLostOn {σ : Nat → Nat → Int32} {k : Nat} {y : Int32} : f_X2_isLostOn σ k y = 0 ∨ f_X2_isLostOn σ k y = 1 := by
  unfold f_X2_isLostOn
  (repeat' split) <;> first | exact Or.inl rfl | exact Or.inr rfl

theorem lostOn_1 {σ : Nat → Nat → Int32} {k : Nat} {y : Int32} (h : ¬ f_X2_isLostOn σ k y = 0) : σ 13 k = 1 := by
  unfold f_X2_isLostOn at h
  (repeat' split at h) <;> first | with_reducible assumption | exact absurd rfl h
theorem cap_ok {x y : Int32} {a b : Nat} (hx : x = nI a) (hy : y = nI b) (h : x + y ≤ 60) (ha : a < 2 ^ 20) (hb : b < 2 ^ 20) : a + b ≤ 60 := by
  rw [hx, hy, nI_add] at h
  exact (nI_leI (b := 60) (by omega) (by decide)).mp h

/-! X2.isRentedBy -/
def f_X2_isRentedBy (σ : Nat → Nat → Int32) (k : Nat) (y : Int32) : Int32 := (if (σ 13 k) = 1 then (if (σ 14 k) = y then 1 else 0) else 0)
abbrev rm_X2_isRentedBy : Room := { frames := 0, cells := 0, slots := 0, locals := 0 }
set_option maxRecDepth 100000 in
theorem c_X2_isRentedBy (l : Launch) (D : va_G) (cI : ClassId) (o : Nat) (a : Nat → Nat) (σ : Nat → Nat → Int32) (x : Int32) (k : Nat) (hx : x = nI k) (y : Int32) (hok : okS σ) (hk : k < nN σ) :
    Met l yX2_isRentedBy (Cond.code yX2_isRentedBy cX2_isRentedBy 3 (some .boolean) :: W0) rm_X2_isRentedBy (va_Pc [.ref o, .int x, .int y] (shP D cI o a σ)) (vp_Si (fun r => r = f_X2_isRentedBy σ k y)) 0 0 (fun _ => False) := by
  subst hx
  refine st_gen (cc := cX2_isRentedBy) (maxL := 3) (ret := some .boolean) (own := RX2) (by decide) rfl (Nat.le_of_ble_eq_true rfl) ?_
  intro p e s m below meth c ls C hPre hl
  obtain ⟨hx, hb, hr, hml, hown, hts, hlk⟩ := C
  obtain ⟨hP, hK⟩ := hPre
  have hl : lv_has ls 3 [(0, .ref (o)), (1, .int (nI k)), (2, .int (y))] := hl
  obtain ⟨hT6, hC6, hN6⟩ := okS_b hok
  refine lv_aload_n hx hb dX2_isRentedBy_0 rfl (lv_at hl 0 rfl) ?_
  refine sh_g13 hx hb hts hown hK hP dX2_isRentedBy_1 ?_
  refine lv_iload_n hx hb dX2_isRentedBy_4 rfl (lv_at hl 1 rfl) ?_
  refine sh_r13 hx hb hK hP (k) rfl (by omega) (v := σ 13 k) rfl dX2_isRentedBy_5 ?_
  refine lv_iconst (v := 1) hx hb dX2_isRentedBy_6 (by decide) ?_
  refine lv_icmp_ne (tgt := 24) hx hb dX2_isRentedBy_7 (by decide) (fun c_7 => ?_) (fun c_7 => ?_)
  · refine lv_iconst (v := 0) hx hb dX2_isRentedBy_24 (by decide) ?_
    exact fin_z hx hb hr hlk (Or.inl rfl) (br_n c_7 rfl) dX2_isRentedBy_25
  refine lv_aload_n hx hb dX2_isRentedBy_10 rfl (lv_at hl 0 rfl) ?_
  refine sh_g14 hx hb hts hown hK hP dX2_isRentedBy_11 ?_
  refine lv_iload_n hx hb dX2_isRentedBy_14 rfl (lv_at hl 1 rfl) ?_
  refine sh_r14 hx hb hK hP (k) rfl (by omega) (v := σ 14 k) rfl dX2_isRentedBy_15 ?_
  refine lv_iload_n hx hb dX2_isRentedBy_16 rfl (lv_at hl 2 rfl) ?_
  refine lv_icmp_ne (tgt := 24) hx hb dX2_isRentedBy_17 (by decide) (fun c_17 => ?_) (fun c_17 => ?_)
  · refine lv_iconst (v := 0) hx hb dX2_isRentedBy_24 (by decide) ?_
    exact fin_z hx hb hr hlk (Or.inl rfl) (br_p c_7 (br_n c_17 rfl)) dX2_isRentedBy_25
  refine lv_iconst (v := 1) hx hb dX2_isRentedBy_20 (by decide) ?_
  refine lv_goto (tgt := 25) hx hb dX2_isRentedBy_21 (by decide) ?_
  exact fin_z hx hb hr hlk (Or.inr rfl) (br_p c_7 (br_p c_17 rfl)) dX2_isRentedBy_25
theorem kV_X2_isRentedBy {R : Room} {s : State} {args : Array Value} {own : String} {idx : Nat} {c0 : Cond} (hts : ∀ w ∈ c0 :: W0, w.before args s = true) (hl : Cond.methodLink own idx yX2_isRentedBy ∈ W0) (hR : rm_X2_isRentedBy.frames + 1 ≤ R.frames ∧ 8 + (3 + 11) + rm_X2_isRentedBy.locals ≤ R.locals) : CallW R s args own RX2 idx yX2_isRentedBy cX2_isRentedBy 3 (some .boolean) (Cond.code yX2_isRentedBy cX2_isRentedBy 3 (some .boolean) :: W0) rm_X2_isRentedBy 0 0 2 := cwV 2 hts (gdV hl mi_yX2_isRentedBy ms_yX2_isRentedBy mini_X2 mc_yX2_isRentedBy) rfl rfl rfl (by decide +kernel) hR

theorem z_X2_isRentedBy {σ : Nat → Nat → Int32} {k : Nat} {y : Int32} : f_X2_isRentedBy σ k y = 0 ∨ f_X2_isRentedBy σ k y = 1 := by
  unfold f_X2_isRentedBy
  (repeat' split) <;> first | exact Or.inl rfl | exact Or.inr rfl

/-! X2.rentedBy -/
def g_X2_rentedBy_4 (σ : Nat → Nat → Int32) (x : Int32) : Nat → (Nat) → (Int32) → Int32
  | 0, k, x2 => x2
  | fu + 1, k, x2 => (if nN σ ≤ k then x2 else (if (f_X2_isRentedBy σ k x) = 0 then g_X2_rentedBy_4 σ x fu (k + 1) x2 else g_X2_rentedBy_4 σ x fu (k + 1) (x2 + 1)))
def f_X2_rentedBy (σ : Nat → Nat → Int32) (x : Int32) : Int32 := (g_X2_rentedBy_4 σ x (nN σ + 1) 0 0)
abbrev rm_X2_rentedBy : Room := { frames := 1, cells := 0, slots := 0, locals := 22 }
set_option maxRecDepth 100000 in
theorem c_X2_rentedBy (l : Launch) (D : va_G) (cI : ClassId) (o : Nat) (a : Nat → Nat) (σ : Nat → Nat → Int32) (x : Int32) (hok : okS σ) :
    Met l yX2_rentedBy (Cond.code yX2_rentedBy cX2_rentedBy 4 (some .int) :: W0) rm_X2_rentedBy (va_Pc [.ref o, .int x] (shP D cI o a σ)) (vp_Si (fun r => r = f_X2_rentedBy σ x)) 0 0 (fun _ => False) := by
  refine st_gen (cc := cX2_rentedBy) (maxL := 4) (ret := some .int) (own := RX2) (by decide) rfl (Nat.le_of_ble_eq_true rfl) ?_
  intro p e s m below meth c ls C hPre hl
  obtain ⟨hx, hb, hr, hml, hown, hts, hlk⟩ := C
  obtain ⟨hP, hK⟩ := hPre
  have hl : lv_has ls 4 [(0, .ref (o)), (1, .int (x))] := hl
  obtain ⟨hT6, hC6, hN6⟩ := okS_b hok
  refine lv_iconst (v := 0) hx hb dX2_rentedBy_0 (by decide) ?_
  refine lv_istore_n (lv' := [(2, .int (0)), (0, .ref (o)), (1, .int (x))]) hx hb dX2_rentedBy_1 rfl hl (by decide) rfl (fun ls hl => ?_)
  refine lv_iconst (v := 0) hx hb dX2_rentedBy_2 (by decide) ?_
  refine lv_istore_n (lv' := [(3, .int (0)), (2, .int (0)), (0, .ref (o)), (1, .int (x))]) hx hb dX2_rentedBy_3 rfl hl (by decide) rfl (fun ls hl => ?_)
  have K_30 : ∀ ls, lv_has ls 4 [(0, .ref (o)), (1, .int (x)), (2, .int ((g_X2_rentedBy_4 σ x (nN σ + 1) 0 0)))] → W p l e rm_X2_rentedBy s m (([.ref (o), .int (x)] : List Value).toArray) below meth c s.heap [] 0 0 (MQ below (vp_Si (fun r => r = f_X2_rentedBy σ x)) ([.ref (o), .int (x)] : List Value).toArray s 0 0 (fun _ => False)) (F0 m 30 ls []) := by
    intro ls hl
    refine lv_iload_n hx hb dX2_rentedBy_30 rfl (lv_at hl 2 rfl) ?_
    exact fin_i hx hb hr hlk rfl dX2_rentedBy_31
  have L_4 : ∀ (fu : Nat) (k : Nat) (x2 : Int32), nN σ - k < fu → k ≤ nN σ → g_X2_rentedBy_4 σ x fu k x2 = g_X2_rentedBy_4 σ x (nN σ + 1) 0 0 → ∀ ls, lv_has ls 4 [(0, .ref (o)), (1, .int (x)), (3, .int (nI k)), (2, .int (x2))] → W p l e rm_X2_rentedBy s m (([.ref (o), .int (x)] : List Value).toArray) below meth c s.heap [] 0 0 (MQ below (vp_Si (fun r => r = f_X2_rentedBy σ x)) ([.ref (o), .int (x)] : List Value).toArray s 0 0 (fun _ => False)) (F0 m 4 ls []) := by
    intro fu
    induction fu with
    | zero => intro k x2 hm; exact absurd hm (Nat.not_lt_zero _)
    | succ fu ih =>
      intro k x2 hm hkN hg_4 ls hl
      refine lv_iload_n hx hb dX2_rentedBy_4 rfl (lv_at hl 2 rfl) ?_
      refine lv_aload_n hx hb dX2_rentedBy_5 rfl (lv_at hl 0 rfl) ?_
      refine sh_g3 hx hb hts hown hK hP (v := σ 3 0) rfl dX2_rentedBy_6 ?_
      refine lv_icmp_geN (k) (nN σ) hx hb rfl (okS_3 (σ := σ) (by with_reducible assumption)) (by omega) (by omega) (tgt := 30) dX2_rentedBy_9 (by decide) (fun c_9 => ?_) (fun c_9 => ?_)
      · have ex : x2 = g_X2_rentedBy_4 σ x (nN σ + 1) 0 0 := ((br_p c_9 rfl) : x2 = g_X2_rentedBy_4 σ x (fu + 1) k x2).trans hg_4
        exact K_30 ls (by rw [← ex]; exact lv_sub hl [0, 1, 3] rfl)
      refine lv_aload_n hx hb dX2_rentedBy_12 rfl (lv_at hl 0 rfl) ?_
      refine lv_iload_n hx hb dX2_rentedBy_13 rfl (lv_at hl 2 rfl) ?_
      refine lv_iload_n hx hb dX2_rentedBy_14 rfl (lv_at hl 1 rfl) ?_
      refine sh_call (rest := []) hx hb hml hown hts hK hP (c_X2_isRentedBy l D cI o a σ (nI k) k rfl x (by with_reducible assumption) (by first | with_reducible assumption | omega)) (kV_X2_isRentedBy hts ml_X2_197 ⟨(Nat.le_of_ble_eq_true rfl), (Nat.le_of_ble_eq_true rfl)⟩) rfl hl.1 rfl (Nat.le_of_ble_eq_true rfl) dX2_rentedBy_15 (Nat.zero_le _) (Nat.zero_le _) ?_
      refine lv_if_eq (tgt := 24) hx hb dX2_rentedBy_18 (by decide) (fun c_18 => ?_) (fun c_18 => ?_)
      · refine lv_iinc (v := nI (k + 1)) (lv' := [(3, .int (nI (k + 1))), (0, .ref (o)), (1, .int (x)), (2, .int (x2))]) hx hb dX2_rentedBy_24 hl (k := 2) rfl (nI_c1 _) (by decide) rfl (fun ls hl => ?_)
        refine lv_goto (tgt := 4) hx hb dX2_rentedBy_27 (by decide) ?_
        exact ih (k + 1) x2 (by omega) (by omega) (((br_n c_9 (br_p c_18 rfl)) : g_X2_rentedBy_4 σ x fu (k + 1) x2 = g_X2_rentedBy_4 σ x (fu + 1) k x2).trans hg_4) ls (lv_sub hl [1, 2, 0, 3] rfl)
      refine lv_iinc (v := x2 + 1) (lv' := [(2, .int (x2 + 1)), (0, .ref (o)), (1, .int (x)), (3, .int (nI k))]) hx hb dX2_rentedBy_21 hl (k := 3) rfl rfl (by decide) rfl (fun ls hl => ?_)
      refine lv_iinc (v := nI (k + 1)) (lv' := [(3, .int (nI (k + 1))), (2, .int (x2 + 1)), (0, .ref (o)), (1, .int (x))]) hx hb dX2_rentedBy_24 hl (k := 3) rfl (nI_c1 _) (by decide) rfl (fun ls hl => ?_)
      refine lv_goto (tgt := 4) hx hb dX2_rentedBy_27 (by decide) ?_
      exact ih (k + 1) (x2 + 1) (by omega) (by omega) (((br_n c_9 (br_n c_18 rfl)) : g_X2_rentedBy_4 σ x fu (k + 1) (x2 + 1) = g_X2_rentedBy_4 σ x (fu + 1) k x2).trans hg_4) ls (lv_sub hl [2, 3, 0, 1] rfl)
  exact L_4 (nN σ + 1) 0 0 (by omega) (by omega) rfl ls (lv_sub hl [2, 3, 0, 1] rfl)
theorem kV_X2_rentedBy {R : Room} {s : State} {args : Array Value} {own : String} {idx : Nat} {c0 : Cond} (hts : ∀ w ∈ c0 :: W0, w.before args s = true) (hl : Cond.methodLink own idx yX2_rentedBy ∈ W0) (hR : rm_X2_rentedBy.frames + 1 ≤ R.frames ∧ 8 + (4 + 11) + rm_X2_rentedBy.locals ≤ R.locals) : CallW R s args own RX2 idx yX2_rentedBy cX2_rentedBy 4 (some .int) (Cond.code yX2_rentedBy cX2_rentedBy 4 (some .int) :: W0) rm_X2_rentedBy 0 0 1 := cwV 1 hts (gdV hl mi_yX2_rentedBy ms_yX2_rentedBy mini_X2 mc_yX2_rentedBy) rfl rfl rfl (by decide +kernel) hR

/-! X2.lateBy -/
def g_X2_lateBy_4 (σ : Nat → Nat → Int32) (x : Int32) : Nat → (Nat) → (Int32) → Int32
  | 0, k, x2 => x2
  | fu + 1, k, x2 => (if nN σ ≤ k then x2 else (if (f_X2_isRentedBy σ k x) = 0 then g_X2_lateBy_4 σ x fu (k + 1) x2 else (if (f_X2_daysLate σ k) ≤ 0 then g_X2_lateBy_4 σ x fu (k + 1) x2 else g_X2_lateBy_4 σ x fu (k + 1) (x2 + 1))))
def f_X2_lateBy (σ : Nat → Nat → Int32) (x : Int32) : Int32 := (g_X2_lateBy_4 σ x (nN σ + 1) 0 0)
abbrev rm_X2_lateBy : Room := { frames := 2, cells := 0, slots := 0, locals := 42 }
set_option maxRecDepth 100000 in
theorem c_X2_lateBy (l : Launch) (D : va_G) (cI : ClassId) (o : Nat) (a : Nat → Nat) (σ : Nat → Nat → Int32) (x : Int32) (hok : okS σ) :
    Met l yX2_lateBy (Cond.code yX2_lateBy cX2_lateBy 4 (some .int) :: W0) rm_X2_lateBy (va_Pc [.ref o, .int x] (shP D cI o a σ)) (vp_Si (fun r => r = f_X2_lateBy σ x)) 0 0 (fun _ => False) := by
  refine st_gen (cc := cX2_lateBy) (maxL := 4) (ret := some .int) (own := RX2) (by decide) rfl (Nat.le_of_ble_eq_true rfl) ?_
  intro p e s m below meth c ls C hPre hl
  obtain ⟨hx, hb, hr, hml, hown, hts, hlk⟩ := C
  obtain ⟨hP, hK⟩ := hPre
  have hl : lv_has ls 4 [(0, .ref (o)), (1, .int (x))] := hl
  obtain ⟨hT6, hC6, hN6⟩ := okS_b hok
  refine lv_iconst (v := 0) hx hb dX2_lateBy_0 (by decide) ?_
  refine lv_istore_n (lv' := [(2, .int (0)), (0, .ref (o)), (1, .int (x))]) hx hb dX2_lateBy_1 rfl hl (by decide) rfl (fun ls hl => ?_)
  refine lv_iconst (v := 0) hx hb dX2_lateBy_2 (by decide) ?_
  refine lv_istore_n (lv' := [(3, .int (0)), (2, .int (0)), (0, .ref (o)), (1, .int (x))]) hx hb dX2_lateBy_3 rfl hl (by decide) rfl (fun ls hl => ?_)
  have K_38 : ∀ ls, lv_has ls 4 [(0, .ref (o)), (1, .int (x)), (2, .int ((g_X2_lateBy_4 σ x (nN σ + 1) 0 0)))] → W p l e rm_X2_lateBy s m (([.ref (o), .int (x)] : List Value).toArray) below meth c s.heap [] 0 0 (MQ below (vp_Si (fun r => r = f_X2_lateBy σ x)) ([.ref (o), .int (x)] : List Value).toArray s 0 0 (fun _ => False)) (F0 m 38 ls []) := by
    intro ls hl
    refine lv_iload_n hx hb dX2_lateBy_38 rfl (lv_at hl 2 rfl) ?_
    exact fin_i hx hb hr hlk rfl dX2_lateBy_39
  have L_4 : ∀ (fu : Nat) (k : Nat) (x2 : Int32), nN σ - k < fu → k ≤ nN σ → g_X2_lateBy_4 σ x fu k x2 = g_X2_lateBy_4 σ x (nN σ + 1) 0 0 → ∀ ls, lv_has ls 4 [(0, .ref (o)), (1, .int (x)), (3, .int (nI k)), (2, .int (x2))] → W p l e rm_X2_lateBy s m (([.ref (o), .int (x)] : List Value).toArray) below meth c s.heap [] 0 0 (MQ below (vp_Si (fun r => r = f_X2_lateBy σ x)) ([.ref (o), .int (x)] : List Value).toArray s 0 0 (fun _ => False)) (F0 m 4 ls []) := by
    intro fu
    induction fu with
    | zero => intro k x2 hm; exact absurd hm (Nat.not_lt_zero _)
    | succ fu ih =>
      intro k x2 hm hkN hg_4 ls hl
      refine lv_iload_n hx hb dX2_lateBy_4 rfl (lv_at hl 2 rfl) ?_
      refine lv_aload_n hx hb dX2_lateBy_5 rfl (lv_at hl 0 rfl) ?_
      refine sh_g3 hx hb hts hown hK hP (v := σ 3 0) rfl dX2_lateBy_6 ?_
      refine lv_icmp_geN (k) (nN σ) hx hb rfl (okS_3 (σ := σ) (by with_reducible assumption)) (by omega) (by omega) (tgt := 38) dX2_lateBy_9 (by decide) (fun c_9 => ?_) (fun c_9 => ?_)
      · have ex : x2 = g_X2_lateBy_4 σ x (nN σ + 1) 0 0 := ((br_p c_9 rfl) : x2 = g_X2_lateBy_4 σ x (fu + 1) k x2).trans hg_4
        exact K_38 ls (by rw [← ex]; exact lv_sub hl [0, 1, 3] rfl)
      refine lv_aload_n hx hb dX2_lateBy_12 rfl (lv_at hl 0 rfl) ?_
      refine lv_iload_n hx hb dX2_lateBy_13 rfl (lv_at hl 2 rfl) ?_
      refine lv_iload_n hx hb dX2_lateBy_14 rfl (lv_at hl 1 rfl) ?_
      refine sh_call (rest := []) hx hb hml hown hts hK hP (c_X2_isRentedBy l D cI o a σ (nI k) k rfl x (by with_reducible assumption) (by first | with_reducible assumption | omega)) (kV_X2_isRentedBy hts ml_X2_197 ⟨(Nat.le_of_ble_eq_true rfl), (Nat.le_of_ble_eq_true rfl)⟩) rfl hl.1 rfl (Nat.le_of_ble_eq_true rfl) dX2_lateBy_15 (Nat.zero_le _) (Nat.zero_le _) ?_
      refine lv_if_eq (tgt := 32) hx hb dX2_lateBy_18 (by decide) (fun c_18 => ?_) (fun c_18 => ?_)
      · refine lv_iinc (v := nI (k + 1)) (lv' := [(3, .int (nI (k + 1))), (0, .ref (o)), (1, .int (x)), (2, .int (x2))]) hx hb dX2_lateBy_32 hl (k := 2) rfl (nI_c1 _) (by decide) rfl (fun ls hl => ?_)
        refine lv_goto (tgt := 4) hx hb dX2_lateBy_35 (by decide) ?_
        exact ih (k + 1) x2 (by omega) (by omega) (((br_n c_9 (br_p c_18 rfl)) : g_X2_lateBy_4 σ x fu (k + 1) x2 = g_X2_lateBy_4 σ x (fu + 1) k x2).trans hg_4) ls (lv_sub hl [1, 2, 0, 3] rfl)
      refine lv_aload_n hx hb dX2_lateBy_21 rfl (lv_at hl 0 rfl) ?_
      refine lv_iload_n hx hb dX2_lateBy_22 rfl (lv_at hl 2 rfl) ?_
      refine sh_call (rest := []) hx hb hml hown hts hK hP (c_X2_daysLate l D cI o a σ (nI k) k rfl (by with_reducible assumption) (by first | with_reducible assumption | omega)) (kV_X2_daysLate hts ml_X2_144 ⟨(Nat.le_of_ble_eq_true rfl), (Nat.le_of_ble_eq_true rfl)⟩) rfl hl.1 rfl (Nat.le_of_ble_eq_true rfl) dX2_lateBy_23 (Nat.zero_le _) (Nat.zero_le _) ?_
      refine lv_if_le (tgt := 32) hx hb dX2_lateBy_26 (by decide) (fun c_26 => ?_) (fun c_26 => ?_)
      · refine lv_iinc (v := nI (k + 1)) (lv' := [(3, .int (nI (k + 1))), (0, .ref (o)), (1, .int (x)), (2, .int (x2))]) hx hb dX2_lateBy_32 hl (k := 2) rfl (nI_c1 _) (by decide) rfl (fun ls hl => ?_)
        refine lv_goto (tgt := 4) hx hb dX2_lateBy_35 (by decide) ?_
        exact ih (k + 1) x2 (by omega) (by omega) (((br_n c_9 (br_n c_18 (br_p c_26 rfl))) : g_X2_lateBy_4 σ x fu (k + 1) x2 = g_X2_lateBy_4 σ x (fu + 1) k x2).trans hg_4) ls (lv_sub hl [1, 2, 0, 3] rfl)
      refine lv_iinc (v := x2 + 1) (lv' := [(2, .int (x2 + 1)), (0, .ref (o)), (1, .int (x)), (3, .int (nI k))]) hx hb dX2_lateBy_29 hl (k := 3) rfl rfl (by decide) rfl (fun ls hl => ?_)
      refine lv_iinc (v := nI (k + 1)) (lv' := [(3, .int (nI (k + 1))), (2, .int (x2 + 1)), (0, .ref (o)), (1, .int (x))]) hx hb dX2_lateBy_32 hl (k := 3) rfl (nI_c1 _) (by decide) rfl (fun ls hl => ?_)
      refine lv_goto (tgt := 4) hx hb dX2_lateBy_35 (by decide) ?_
      exact ih (k + 1) (x2 + 1) (by omega) (by omega) (((br_n c_9 (br_n c_18 (br_n c_26 rfl))) : g_X2_lateBy_4 σ x fu (k + 1) (x2 + 1) = g_X2_lateBy_4 σ x (fu + 1) k x2).trans hg_4) ls (lv_sub hl [2, 3, 0, 1] rfl)
  exact L_4 (nN σ + 1) 0 0 (by omega) (by omega) rfl ls (lv_sub hl [2, 3, 0, 1] rfl)
theorem kV_X2_lateBy {R : Room} {s : State} {args : Array Value} {own : String} {idx : Nat} {c0 : Cond} (hts : ∀ w ∈ c0 :: W0, w.before args s = true) (hl : Cond.methodLink own idx yX2_lateBy ∈ W0) (hR : rm_X2_lateBy.frames + 1 ≤ R.frames ∧ 8 + (4 + 11) + rm_X2_lateBy.locals ≤ R.locals) : CallW R s args own RX2 idx yX2_lateBy cX2_lateBy 4 (some .int) (Cond.code yX2_lateBy cX2_lateBy 4 (some .int) :: W0) rm_X2_lateBy 0 0 1 := cwV 1 hts (gdV hl mi_yX2_lateBy ms_yX2_lateBy mini_X2 mc_yX2_lateBy) rfl rfl rfl (by decide +kernel) hR

/-! X2.isRuinedBy -/
def f_X2_isRuinedBy (σ : Nat → Nat → Int32) (k : Nat) (y : Int32) : Int32 := (if ((σ 12 k) + y) ≤ 4 then 0 else 1)
abbrev rm_X2_isRuinedBy : Room := { frames := 0, cells := 0, slots := 0, locals := 0 }
set_option maxRecDepth 100000 in
theorem c_X2_isRuinedBy (l : Launch) (D : va_G) (cI : ClassId) (o : Nat) (a : Nat → Nat) (σ : Nat → Nat → Int32) (x : Int32) (k : Nat) (hx : x = nI k) (y : Int32) (hok : okS σ) (hk : k < nN σ) :
    Met l yX2_isRuinedBy (Cond.code yX2_isRuinedBy cX2_isRuinedBy 3 (some .boolean) :: W0) rm_X2_isRuinedBy (va_Pc [.ref o, .int x, .int y] (shP D cI o a σ)) (vp_Si (fun r => r = f_X2_isRuinedBy σ k y)) 0 0 (fun _ => False) := by
  subst hx
  refine st_gen (cc := cX2_isRuinedBy) (maxL := 3) (ret := some .boolean) (own := RX2) (by decide) rfl (Nat.le_of_ble_eq_true rfl) ?_
  intro p e s m below meth c ls C hPre hl
  obtain ⟨hx, hb, hr, hml, hown, hts, hlk⟩ := C
  obtain ⟨hP, hK⟩ := hPre
  have hl : lv_has ls 3 [(0, .ref (o)), (1, .int (nI k)), (2, .int (y))] := hl
  obtain ⟨hT6, hC6, hN6⟩ := okS_b hok
  refine lv_aload_n hx hb dX2_isRuinedBy_0 rfl (lv_at hl 0 rfl) ?_
  refine sh_g12 hx hb hts hown hK hP dX2_isRuinedBy_1 ?_
  refine lv_iload_n hx hb dX2_isRuinedBy_4 rfl (lv_at hl 1 rfl) ?_
  refine sh_r12 hx hb hK hP (k) rfl (by omega) (v := σ 12 k) rfl dX2_isRuinedBy_5 ?_
  refine lv_iload_n hx hb dX2_isRuinedBy_6 rfl (lv_at hl 2 rfl) ?_
  refine lv_iadd hx hb dX2_isRuinedBy_7 ?_
  refine lv_iconst (v := 4) hx hb dX2_isRuinedBy_8 (by decide) ?_
  refine lv_icmp_le (tgt := 16) hx hb dX2_isRuinedBy_9 (by decide) (fun c_9 => ?_) (fun c_9 => ?_)
  · refine lv_iconst (v := 0) hx hb dX2_isRuinedBy_16 (by decide) ?_
    exact fin_z hx hb hr hlk (Or.inl rfl) (br_p c_9 rfl) dX2_isRuinedBy_17
  refine lv_iconst (v := 1) hx hb dX2_isRuinedBy_12 (by decide) ?_
  refine lv_goto (tgt := 17) hx hb dX2_isRuinedBy_13 (by decide) ?_
  exact fin_z hx hb hr hlk (Or.inr rfl) (br_n c_9 rfl) dX2_isRuinedBy_17
theorem kV_X2_isRuinedBy {R : Room} {s : State} {args : Array Value} {own : String} {idx : Nat} {c0 : Cond} (hts : ∀ w ∈ c0 :: W0, w.before args s = true) (hl : Cond.methodLink own idx yX2_isRuinedBy ∈ W0) (hR : rm_X2_isRuinedBy.frames + 1 ≤ R.frames ∧ 8 + (3 + 11) + rm_X2_isRuinedBy.locals ≤ R.locals) : CallW R s args own RX2 idx yX2_isRuinedBy cX2_isRuinedBy 3 (some .boolean) (Cond.code yX2_isRuinedBy cX2_isRuinedBy 3 (some .boolean) :: W0) rm_X2_isRuinedBy 0 0 2 := cwV 2 hts (gdV hl mi_yX2_isRuinedBy ms_yX2_isRuinedBy mini_X2 mc_yX2_isRuinedBy) rfl rfl rfl (by decide +kernel) hR

theorem z_X2_isRuinedBy {σ : Nat → Nat → Int32} {k : Nat} {y : Int32} : f_X2_isRuinedBy σ k y = 0 ∨ f_X2_isRuinedBy σ k y = 1 := by
  unfold f_X2_isRuinedBy
  (repeat' split) <;> first | exact Or.inl rfl | exact Or.inr rfl

/-! X2.damageCharge -/
def f_X2_damageCharge (σ : Nat → Nat → Int32) (k : Nat) (y : Int32) : Int32 := (if (f_X2_isRuinedBy σ k y) = 0 then (if 2 ≤ y then (f_X2_worthWithGrade σ k ((σ 12 k) + 1)) - (f_X2_worthWithGrade σ k ((σ 12 k) + y)) else 0) else (f_X2_worthOf σ k))
abbrev rm_X2_damageCharge : Room := { frames := 3, cells := 0, slots := 0, locals := 71 }
set_option maxRecDepth 100000 in
theorem c_X2_damageCharge (l : Launch) (D : va_G) (cI : ClassId) (o : Nat) (a : Nat → Nat) (σ : Nat → Nat → Int32) (x : Int32) (k : Nat) (hx : x = nI k) (y : Int32) (hok : okS σ) (hk : k < nN σ) :
    Met l yX2_damageCharge (Cond.code yX2_damageCharge cX2_damageCharge 3 (some .int) :: W0) rm_X2_damageCharge (va_Pc [.ref o, .int x, .int y] (shP D cI o a σ)) (vp_Si (fun r => r = f_X2_damageCharge σ k y)) 0 0 (fun _ => False) := by
  subst hx
  refine st_gen (cc := cX2_damageCharge) (maxL := 3) (ret := some .int) (own := RX2) (by decide) rfl (Nat.le_of_ble_eq_true rfl) ?_
  intro p e s m below meth c ls C hPre hl
  obtain ⟨hx, hb, hr, hml, hown, hts, hlk⟩ := C
  obtain ⟨hP, hK⟩ := hPre
  have hl : lv_has ls 3 [(0, .ref (o)), (1, .int (nI k)), (2, .int (y))] := hl
  obtain ⟨hT6, hC6, hN6⟩ := okS_b hok
  refine lv_aload_n hx hb dX2_damageCharge_0 rfl (lv_at hl 0 rfl) ?_
  refine lv_iload_n hx hb dX2_damageCharge_1 rfl (lv_at hl 1 rfl) ?_
  refine lv_iload_n hx hb dX2_damageCharge_2 rfl (lv_at hl 2 rfl) ?_
  refine sh_call (rest := []) hx hb hml hown hts hK hP (c_X2_isRuinedBy l D cI o a σ (nI k) k rfl y (by with_reducible assumption) (by first | with_reducible assumption | omega)) (kV_X2_isRuinedBy hts ml_X2_184 ⟨(Nat.le_of_ble_eq_true rfl), (Nat.le_of_ble_eq_true rfl)⟩) rfl hl.1 rfl (Nat.le_of_ble_eq_true rfl) dX2_damageCharge_3 (Nat.zero_le _) (Nat.zero_le _) ?_
  refine lv_if_eq (tgt := 15) hx hb dX2_damageCharge_6 (by decide) (fun c_6 => ?_) (fun c_6 => ?_)
  · refine lv_iload_n hx hb dX2_damageCharge_15 rfl (lv_at hl 2 rfl) ?_
    refine lv_iconst (v := 2) hx hb dX2_damageCharge_16 (by decide) ?_
    refine lv_icmp_ge (tgt := 22) hx hb dX2_damageCharge_17 (by decide) (fun c_17 => ?_) (fun c_17 => ?_)
    · refine lv_aload_n hx hb dX2_damageCharge_22 rfl (lv_at hl 0 rfl) ?_
      refine lv_iload_n hx hb dX2_damageCharge_23 rfl (lv_at hl 1 rfl) ?_
      refine lv_aload_n hx hb dX2_damageCharge_24 rfl (lv_at hl 0 rfl) ?_
      refine sh_g12 hx hb hts hown hK hP dX2_damageCharge_25 ?_
      refine lv_iload_n hx hb dX2_damageCharge_28 rfl (lv_at hl 1 rfl) ?_
      refine sh_r12 hx hb hK hP (k) rfl (by omega) (v := σ 12 k) rfl dX2_damageCharge_29 ?_
      refine lv_iconst (v := 1) hx hb dX2_damageCharge_30 (by decide) ?_
      refine lv_iadd hx hb dX2_damageCharge_31 ?_
      refine sh_call (rest := []) hx hb hml hown hts hK hP (c_X2_worthWithGrade l D cI o a σ (nI k) k rfl ((σ 12 k) + 1) (by with_reducible assumption) (by first | with_reducible assumption | omega)) (kV_X2_worthWithGrade hts ml_X2_200 ⟨(Nat.le_of_ble_eq_true rfl), (Nat.le_of_ble_eq_true rfl)⟩) rfl hl.1 rfl (Nat.le_of_ble_eq_true rfl) dX2_damageCharge_32 (Nat.zero_le _) (Nat.zero_le _) ?_
      refine lv_aload_n hx hb dX2_damageCharge_35 rfl (lv_at hl 0 rfl) ?_
      refine lv_iload_n hx hb dX2_damageCharge_36 rfl (lv_at hl 1 rfl) ?_
      refine lv_aload_n hx hb dX2_damageCharge_37 rfl (lv_at hl 0 rfl) ?_
      refine sh_g12 hx hb hts hown hK hP dX2_damageCharge_38 ?_
      refine lv_iload_n hx hb dX2_damageCharge_41 rfl (lv_at hl 1 rfl) ?_
      refine sh_r12 hx hb hK hP (k) rfl (by omega) (v := σ 12 k) rfl dX2_damageCharge_42 ?_
      refine lv_iload_n hx hb dX2_damageCharge_43 rfl (lv_at hl 2 rfl) ?_
      refine lv_iadd hx hb dX2_damageCharge_44 ?_
      refine sh_call (rest := [.int ((f_X2_worthWithGrade σ k ((σ 12 k) + 1)))]) hx hb hml hown hts hK hP (c_X2_worthWithGrade l D cI o a σ (nI k) k rfl ((σ 12 k) + y) (by with_reducible assumption) (by first | with_reducible assumption | omega)) (kV_X2_worthWithGrade hts ml_X2_200 ⟨(Nat.le_of_ble_eq_true rfl), (Nat.le_of_ble_eq_true rfl)⟩) rfl hl.1 rfl (Nat.le_of_ble_eq_true rfl) dX2_damageCharge_45 (Nat.zero_le _) (Nat.zero_le _) ?_
      refine lv_isub hx hb dX2_damageCharge_48 ?_
      exact fin_i hx hb hr hlk (br_p c_6 (br_p c_17 rfl)) dX2_damageCharge_49
    refine lv_iconst (v := 0) hx hb dX2_damageCharge_20 (by decide) ?_
    exact fin_i hx hb hr hlk (br_p c_6 (br_n c_17 rfl)) dX2_damageCharge_21
  refine lv_aload_n hx hb dX2_damageCharge_9 rfl (lv_at hl 0 rfl) ?_
  refine lv_iload_n hx hb dX2_damageCharge_10 rfl (lv_at hl 1 rfl) ?_
  refine sh_call (rest := []) hx hb hml hown hts hK hP (c_X2_worthOf l D cI o a σ (nI k) k rfl (by with_reducible assumption) (by first | with_reducible assumption | omega)) (kV_X2_worthOf hts ml_X2_131 ⟨(Nat.le_of_ble_eq_true rfl), (Nat.le_of_ble_eq_true rfl)⟩) rfl hl.1 rfl (Nat.le_of_ble_eq_true rfl) dX2_damageCharge_11 (Nat.zero_le _) (Nat.zero_le _) ?_
  exact fin_i hx hb hr hlk (br_n c_6 rfl) dX2_damageCharge_14
theorem kV_X2_damageCharge {R : Room} {s : State} {args : Array Value} {own : String} {idx : Nat} {c0 : Cond} (hts : ∀ w ∈ c0 :: W0, w.before args s = true) (hl : Cond.methodLink own idx yX2_damageCharge ∈ W0) (hR : rm_X2_damageCharge.frames + 1 ≤ R.frames ∧ 8 + (3 + 11) + rm_X2_damageCharge.locals ≤ R.locals) : CallW R s args own RX2 idx yX2_damageCharge cX2_damageCharge 3 (some .int) (Cond.code yX2_damageCharge cX2_damageCharge 3 (some .int) :: W0) rm_X2_damageCharge 0 0 2 := cwV 2 hts (gdV hl mi_yX2_damageCharge ms_yX2_damageCharge mini_X2 mc_yX2_damageCharge) rfl rfl rfl (by decide +kernel) hR

/-! X2.lateCharge -/
def f_X2_lateCharge (σ : Nat → Nat → Int32) (k : Nat) : Int32 := if (f_X2_worthOf σ k) < ((f_X2_daysLate σ k) * (σ 4 1)) then (f_X2_worthOf σ k) else ((f_X2_daysLate σ k) * (σ 4 1))
abbrev rm_X2_lateCharge : Room := { frames := 3, cells := 0, slots := 0, locals := 70 }
set_option maxRecDepth 100000 in
theorem c_X2_lateCharge (l : Launch) (D : va_G) (cI : ClassId) (o : Nat) (a : Nat → Nat) (σ : Nat → Nat → Int32) (x : Int32) (k : Nat) (hx : x = nI k) (hok : okS σ) (hk : k < nN σ) :
    Met l yX2_lateCharge (Cond.code yX2_lateCharge cX2_lateCharge 2 (some .int) :: W0) rm_X2_lateCharge (va_Pc [.ref o, .int x] (shP D cI o a σ)) (vp_Si (fun r => r = f_X2_lateCharge σ k)) 0 0 (fun _ => False) := by
  subst hx
  refine st_gen (cc := cX2_lateCharge) (maxL := 2) (ret := some .int) (own := RX2) (by decide) rfl (Nat.le_of_ble_eq_true rfl) ?_
  intro p e s m below meth c ls C hPre hl
  obtain ⟨hx, hb, hr, hml, hown, hts, hlk⟩ := C
  obtain ⟨hP, hK⟩ := hPre
  have hl : lv_has ls 2 [(0, .ref (o)), (1, .int (nI k))] := hl
  obtain ⟨hT6, hC6, hN6⟩ := okS_b hok
  refine lv_aload_n hx hb dX2_lateCharge_0 rfl (lv_at hl 0 rfl) ?_
  refine lv_iload_n hx hb dX2_lateCharge_1 rfl (lv_at hl 1 rfl) ?_
  refine sh_call (rest := []) hx hb hml hown hts hK hP (c_X2_daysLate l D cI o a σ (nI k) k rfl (by with_reducible assumption) (by first | with_reducible assumption | omega)) (kV_X2_daysLate hts ml_X2_144 ⟨(Nat.le_of_ble_eq_true rfl), (Nat.le_of_ble_eq_true rfl)⟩) rfl hl.1 rfl (Nat.le_of_ble_eq_true rfl) dX2_lateCharge_2 (Nat.zero_le _) (Nat.zero_le _) ?_
  refine lv_aload_n hx hb dX2_lateCharge_5 rfl (lv_at hl 0 rfl) ?_
  refine sh_g4 hx hb hts hown hK hP dX2_lateCharge_6 ?_
  refine lv_iconst (v := 1) hx hb dX2_lateCharge_9 (by decide) ?_
  refine sh_r4 hx hb hK hP (1) rfl (by omega) (v := σ 4 1) rfl dX2_lateCharge_10 ?_
  refine lv_imul hx hb dX2_lateCharge_11 ?_
  refine lv_aload_n hx hb dX2_lateCharge_12 rfl (lv_at hl 0 rfl) ?_
  refine lv_iload_n hx hb dX2_lateCharge_13 rfl (lv_at hl 1 rfl) ?_
  refine sh_call (rest := [.int ((f_X2_daysLate σ k) * (σ 4 1))]) hx hb hml hown hts hK hP (c_X2_worthOf l D cI o a σ (nI k) k rfl (by with_reducible assumption) (by first | with_reducible assumption | omega)) (kV_X2_worthOf hts ml_X2_131 ⟨(Nat.le_of_ble_eq_true rfl), (Nat.le_of_ble_eq_true rfl)⟩) rfl hl.1 rfl (Nat.le_of_ble_eq_true rfl) dX2_lateCharge_14 (Nat.zero_le _) (Nat.zero_le _) ?_
  refine r_min hx hb hml hown hts hl.1 ml_X2_71 (Nat.le_of_ble_eq_true rfl) (Nat.le_of_ble_eq_true rfl) (Nat.zero_le _) (Nat.zero_le _) (rest := []) dX2_lateCharge_17 ?_
  exact fin_i hx hb hr hlk rfl dX2_lateCharge_20
theorem kV_X2_lateCharge {R : Room} {s : State} {args : Array Value} {own : String} {idx : Nat} {c0 : Cond} (hts : ∀ w ∈ c0 :: W0, w.before args s = true) (hl : Cond.methodLink own idx yX2_lateCharge ∈ W0) (hR : rm_X2_lateCharge.frames + 1 ≤ R.frames ∧ 8 + (2 + 11) + rm_X2_lateCharge.locals ≤ R.locals) : CallW R s args own RX2 idx yX2_lateCharge cX2_lateCharge 2 (some .int) (Cond.code yX2_lateCharge cX2_lateCharge 2 (some .int) :: W0) rm_X2_lateCharge 0 0 1 := cwV 1 hts (gdV hl mi_yX2_lateCharge ms_yX2_lateCharge mini_X2 mc_yX2_lateCharge) rfl rfl rfl (by decide +kernel) hR

/-! X2.goesAhead -/
def f_X2_goesAhead (σ : Nat → Nat → Int32) (k : Nat) (k2 : Nat) : Int32 := (if (σ 12 k) = (σ 12 k2) then (if (σ 11 k2) ≤ (σ 11 k) then 0 else 1) else (if (σ 12 k) ≤ (σ 12 k2) then 0 else 1))
abbrev rm_X2_goesAhead : Room := { frames := 0, cells := 0, slots := 0, locals := 0 }
set_option maxRecDepth 100000 in
theorem c_X2_goesAhead (l : Launch) (D : va_G) (cI : ClassId) (o : Nat) (a : Nat → Nat) (σ : Nat → Nat → Int32) (x : Int32) (k : Nat) (hx : x = nI k) (y : Int32) (k2 : Nat) (hy : y = nI k2) (hok : okS σ) (hk : k < nN σ) (hk2 : k2 < nN σ) :
    Met l yX2_goesAhead (Cond.code yX2_goesAhead cX2_goesAhead 3 (some .boolean) :: W0) rm_X2_goesAhead (va_Pc [.ref o, .int x, .int y] (shP D cI o a σ)) (vp_Si (fun r => r = f_X2_goesAhead σ k k2)) 0 0 (fun _ => False) := by
  subst hx
  subst hy
  refine st_gen (cc := cX2_goesAhead) (maxL := 3) (ret := some .boolean) (own := RX2) (by decide) rfl (Nat.le_of_ble_eq_true rfl) ?_
  intro p e s m below meth c ls C hPre hl
  obtain ⟨hx, hb, hr, hml, hown, hts, hlk⟩ := C
  obtain ⟨hP, hK⟩ := hPre
  have hl : lv_has ls 3 [(0, .ref (o)), (1, .int (nI k)), (2, .int (nI k2))] := hl
  obtain ⟨hT6, hC6, hN6⟩ := okS_b hok
  refine lv_aload_n hx hb dX2_goesAhead_0 rfl (lv_at hl 0 rfl) ?_
  refine sh_g12 hx hb hts hown hK hP dX2_goesAhead_1 ?_
  refine lv_iload_n hx hb dX2_goesAhead_4 rfl (lv_at hl 1 rfl) ?_
  refine sh_r12 hx hb hK hP (k) rfl (by omega) (v := σ 12 k) rfl dX2_goesAhead_5 ?_
  refine lv_aload_n hx hb dX2_goesAhead_6 rfl (lv_at hl 0 rfl) ?_
  refine sh_g12 hx hb hts hown hK hP dX2_goesAhead_7 ?_
  refine lv_iload_n hx hb dX2_goesAhead_10 rfl (lv_at hl 2 rfl) ?_
  refine sh_r12 hx hb hK hP (k2) rfl (by omega) (v := σ 12 k2) rfl dX2_goesAhead_11 ?_
  refine lv_icmp_eq (tgt := 36) hx hb dX2_goesAhead_12 (by decide) (fun c_12 => ?_) (fun c_12 => ?_)
  · refine lv_aload_n hx hb dX2_goesAhead_36 rfl (lv_at hl 0 rfl) ?_
    refine sh_g11 hx hb hts hown hK hP dX2_goesAhead_37 ?_
    refine lv_iload_n hx hb dX2_goesAhead_40 rfl (lv_at hl 1 rfl) ?_
    refine sh_r11 hx hb hK hP (k) rfl (by omega) (v := σ 11 k) rfl dX2_goesAhead_41 ?_
    refine lv_aload_n hx hb dX2_goesAhead_42 rfl (lv_at hl 0 rfl) ?_
    refine sh_g11 hx hb hts hown hK hP dX2_goesAhead_43 ?_
    refine lv_iload_n hx hb dX2_goesAhead_46 rfl (lv_at hl 2 rfl) ?_
    refine sh_r11 hx hb hK hP (k2) rfl (by omega) (v := σ 11 k2) rfl dX2_goesAhead_47 ?_
    refine lv_icmp_ge (tgt := 55) hx hb dX2_goesAhead_48 (by decide) (fun c_48 => ?_) (fun c_48 => ?_)
    · refine lv_iconst (v := 0) hx hb dX2_goesAhead_55 (by decide) ?_
      exact fin_z hx hb hr hlk (Or.inl rfl) (br_p c_12 (br_p c_48 rfl)) dX2_goesAhead_56
    refine lv_iconst (v := 1) hx hb dX2_goesAhead_51 (by decide) ?_
    refine lv_goto (tgt := 56) hx hb dX2_goesAhead_52 (by decide) ?_
    exact fin_z hx hb hr hlk (Or.inr rfl) (br_p c_12 (br_n c_48 rfl)) dX2_goesAhead_56
  refine lv_aload_n hx hb dX2_goesAhead_15 rfl (lv_at hl 0 rfl) ?_
  refine sh_g12 hx hb hts hown hK hP dX2_goesAhead_16 ?_
  refine lv_iload_n hx hb dX2_goesAhead_19 rfl (lv_at hl 1 rfl) ?_
  refine sh_r12 hx hb hK hP (k) rfl (by omega) (v := σ 12 k) rfl dX2_goesAhead_20 ?_
  refine lv_aload_n hx hb dX2_goesAhead_21 rfl (lv_at hl 0 rfl) ?_
  refine sh_g12 hx hb hts hown hK hP dX2_goesAhead_22 ?_
  refine lv_iload_n hx hb dX2_goesAhead_25 rfl (lv_at hl 2 rfl) ?_
  refine sh_r12 hx hb hK hP (k2) rfl (by omega) (v := σ 12 k2) rfl dX2_goesAhead_26 ?_
  refine lv_icmp_le (tgt := 34) hx hb dX2_goesAhead_27 (by decide) (fun c_27 => ?_) (fun c_27 => ?_)
  · refine lv_iconst (v := 0) hx hb dX2_goesAhead_34 (by decide) ?_
    exact fin_z hx hb hr hlk (Or.inl rfl) (br_n c_12 (br_p c_27 rfl)) dX2_goesAhead_35
  refine lv_iconst (v := 1) hx hb dX2_goesAhead_30 (by decide) ?_
  refine lv_goto (tgt := 35) hx hb dX2_goesAhead_31 (by decide) ?_
  exact fin_z hx hb hr hlk (Or.inr rfl) (br_n c_12 (br_n c_27 rfl)) dX2_goesAhead_35
theorem kV_X2_goesAhead {R : Room} {s : State} {args : Array Value} {own : String} {idx : Nat} {c0 : Cond} (hts : ∀ w ∈ c0 :: W0, w.before args s = true) (hl : Cond.methodLink own idx yX2_goesAhead ∈ W0) (hR : rm_X2_goesAhead.frames + 1 ≤ R.frames ∧ 8 + (3 + 11) + rm_X2_goesAhead.locals ≤ R.locals) : CallW R s args own RX2 idx yX2_goesAhead cX2_goesAhead 3 (some .boolean) (Cond.code yX2_goesAhead cX2_goesAhead 3 (some .boolean) :: W0) rm_X2_goesAhead 0 0 2 := cwV 2 hts (gdV hl mi_yX2_goesAhead ms_yX2_goesAhead mini_X2 mc_yX2_goesAhead) rfl rfl rfl (by decide +kernel) hR

theorem z_X2_goesAhead {σ : Nat → Nat → Int32} {k : Nat} {k2 : Nat} : f_X2_goesAhead σ k k2 = 0 ∨ f_X2_goesAhead σ k k2 = 1 := by
  unfold f_X2_goesAhead
  (repeat' split) <;> first | exact Or.inl rfl | exact Or.inr rfl

/-! X2.bestFor -/
def g_X2_bestFor_4 (σ : Nat → Nat → Int32) (jc : Nat) : Nat → (Nat) → (Int32) → Int32
  | 0, k, x2 => x2
  | fu + 1, k, x2 => (if nN σ ≤ k then x2 else (if (σ 13 k) = 0 then (if (f_X2_suits σ k jc) = 0 then g_X2_bestFor_4 σ jc fu (k + 1) x2 else (if x2 = (-1) then g_X2_bestFor_4 σ jc fu (k + 1) (nI k) else (if (f_X2_goesAhead σ k (tn x2)) = 0 then g_X2_bestFor_4 σ jc fu (k + 1) x2 else g_X2_bestFor_4 σ jc fu (k + 1) (nI k)))) else g_X2_bestFor_4 σ jc fu (k + 1) x2))
def f_X2_bestFor (σ : Nat → Nat → Int32) (jc : Nat) : Int32 := (g_X2_bestFor_4 σ jc (nN σ + 1) 0 (-1))
abbrev rm_X2_bestFor : Room := { frames := 2, cells := 0, slots := 0, locals := 45 }
set_option maxRecDepth 100000 in
theorem c_X2_bestFor (l : Launch) (D : va_G) (cI : ClassId) (o : Nat) (a : Nat → Nat) (σ : Nat → Nat → Int32) (x : Int32) (jc : Nat) (hx : x = nI jc) (hok : okS σ) (hjc : jc < nC σ) :
    Met l yX2_bestFor (Cond.code yX2_bestFor cX2_bestFor 4 (some .int) :: W0) rm_X2_bestFor (va_Pc [.ref o, .int x] (shP D cI o a σ)) (vp_Si (fun r => r = f_X2_bestFor σ jc)) 0 0 (fun _ => False) := by
  subst hx
  refine st_gen (cc := cX2_bestFor) (maxL := 4) (ret := some .int) (own := RX2) (by decide) rfl (Nat.le_of_ble_eq_true rfl) ?_
  intro p e s m below meth c ls C hPre hl
  obtain ⟨hx, hb, hr, hml, hown, hts, hlk⟩ := C
  obtain ⟨hP, hK⟩ := hPre
  have hl : lv_has ls 4 [(0, .ref (o)), (1, .int (nI jc))] := hl
  obtain ⟨hT6, hC6, hN6⟩ := okS_b hok
  refine lv_iconst (v := (-1)) hx hb dX2_bestFor_0 (by decide) ?_
  refine lv_istore_n (lv' := [(2, .int ((-1))), (0, .ref (o)), (1, .int (nI jc))]) hx hb dX2_bestFor_1 rfl hl (by decide) rfl (fun ls hl => ?_)
  refine lv_iconst (v := 0) hx hb dX2_bestFor_2 (by decide) ?_
  refine lv_istore_n (lv' := [(3, .int (0)), (2, .int ((-1))), (0, .ref (o)), (1, .int (nI jc))]) hx hb dX2_bestFor_3 rfl hl (by decide) rfl (fun ls hl => ?_)
  have K_52 : ∀ ls, lv_has ls 4 [(0, .ref (o)), (1, .int (nI jc)), (2, .int ((g_X2_bestFor_4 σ jc (nN σ + 1) 0 (-1))))] → W p l e rm_X2_bestFor s m (([.ref (o), .int (nI jc)] : List Value).toArray) below meth c s.heap [] 0 0 (MQ below (vp_Si (fun r => r = f_X2_bestFor σ jc)) ([.ref (o), .int (nI jc)] : List Value).toArray s 0 0 (fun _ => False)) (F0 m 52 ls []) := by
    intro ls hl
    refine lv_iload_n hx hb dX2_bestFor_52 rfl (lv_at hl 2 rfl) ?_
    exact fin_i hx hb hr hlk rfl dX2_bestFor_53
  have L_4 : ∀ (fu : Nat) (k : Nat) (x2 : Int32), nN σ - k < fu → k ≤ nN σ → x2 = (-1) ∨ (tn x2 < nN σ ∧ x2 = nI (tn x2)) → g_X2_bestFor_4 σ jc fu k x2 = g_X2_bestFor_4 σ jc (nN σ + 1) 0 (-1) → ∀ ls, lv_has ls 4 [(0, .ref (o)), (1, .int (nI jc)), (3, .int (nI k)), (2, .int (x2))] → W p l e rm_X2_bestFor s m (([.ref (o), .int (nI jc)] : List Value).toArray) below meth c s.heap [] 0 0 (MQ below (vp_Si (fun r => r = f_X2_bestFor σ jc)) ([.ref (o), .int (nI jc)] : List Value).toArray s 0 0 (fun _ => False)) (F0 m 4 ls []) := by
    intro fu
    induction fu with
    | zero => intro k x2 hm; exact absurd hm (Nat.not_lt_zero _)
    | succ fu ih =>
      intro k x2 hm hkN hbs hg_4 ls hl
      refine lv_iload_n hx hb dX2_bestFor_4 rfl (lv_at hl 2 rfl) ?_
      refine lv_aload_n hx hb dX2_bestFor_5 rfl (lv_at hl 0 rfl) ?_
      refine sh_g3 hx hb hts hown hK hP (v := σ 3 0) rfl dX2_bestFor_6 ?_
      refine lv_icmp_geN (k) (nN σ) hx hb rfl (okS_3 (σ := σ) (by with_reducible assumption)) (by omega) (by omega) (tgt := 52) dX2_bestFor_9 (by decide) (fun c_9 => ?_) (fun c_9 => ?_)
      · have ex : x2 = g_X2_bestFor_4 σ jc (nN σ + 1) 0 (-1) := ((br_p c_9 rfl) : x2 = g_X2_bestFor_4 σ jc (fu + 1) k x2).trans hg_4
        exact K_52 ls (by rw [← ex]; exact lv_sub hl [0, 1, 3] rfl)
      refine lv_aload_n hx hb dX2_bestFor_12 rfl (lv_at hl 0 rfl) ?_
      refine sh_g13 hx hb hts hown hK hP dX2_bestFor_13 ?_
      refine lv_iload_n hx hb dX2_bestFor_16 rfl (lv_at hl 2 rfl) ?_
      refine sh_r13 hx hb hK hP (k) rfl (by omega) (v := σ 13 k) rfl dX2_bestFor_17 ?_
      refine lv_if_ne (tgt := 46) hx hb dX2_bestFor_18 (by decide) (fun c_18 => ?_) (fun c_18 => ?_)
      · refine lv_iinc (v := nI (k + 1)) (lv' := [(3, .int (nI (k + 1))), (0, .ref (o)), (1, .int (nI jc)), (2, .int (x2))]) hx hb dX2_bestFor_46 hl (k := 2) rfl (nI_c1 _) (by decide) rfl (fun ls hl => ?_)
        refine lv_goto (tgt := 4) hx hb dX2_bestFor_49 (by decide) ?_
        exact ih (k + 1) x2 (by omega) (by omega) (by first | exact hbs | exact Or.inr (best_ok (by omega) (by omega))) (((br_n c_9 (br_n c_18 rfl)) : g_X2_bestFor_4 σ jc fu (k + 1) x2 = g_X2_bestFor_4 σ jc (fu + 1) k x2).trans hg_4) ls (lv_sub hl [1, 2, 0, 3] rfl)
      refine lv_aload_n hx hb dX2_bestFor_21 rfl (lv_at hl 0 rfl) ?_
      refine lv_iload_n hx hb dX2_bestFor_22 rfl (lv_at hl 2 rfl) ?_
      refine lv_iload_n hx hb dX2_bestFor_23 rfl (lv_at hl 1 rfl) ?_
      refine sh_call (rest := []) hx hb hml hown hts hK hP (c_X2_suits l D cI o a σ (nI k) k rfl (nI jc) jc rfl (by with_reducible assumption) (by first | with_reducible assumption | omega) (by first | with_reducible assumption | omega)) (kV_X2_suits hts ml_X2_191 ⟨(Nat.le_of_ble_eq_true rfl), (Nat.le_of_ble_eq_true rfl)⟩) rfl hl.1 rfl (Nat.le_of_ble_eq_true rfl) dX2_bestFor_24 (Nat.zero_le _) (Nat.zero_le _) ?_
      refine lv_if_eq (tgt := 46) hx hb dX2_bestFor_27 (by decide) (fun c_27 => ?_) (fun c_27 => ?_)
      · refine lv_iinc (v := nI (k + 1)) (lv' := [(3, .int (nI (k + 1))), (0, .ref (o)), (1, .int (nI jc)), (2, .int (x2))]) hx hb dX2_bestFor_46 hl (k := 2) rfl (nI_c1 _) (by decide) rfl (fun ls hl => ?_)
        refine lv_goto (tgt := 4) hx hb dX2_bestFor_49 (by decide) ?_
        exact ih (k + 1) x2 (by omega) (by omega) (by first | exact hbs | exact Or.inr (best_ok (by omega) (by omega))) (((br_n c_9 (br_p c_18 (br_p c_27 rfl))) : g_X2_bestFor_4 σ jc fu (k + 1) x2 = g_X2_bestFor_4 σ jc (fu + 1) k x2).trans hg_4) ls (lv_sub hl [1, 2, 0, 3] rfl)
      refine lv_iload_n hx hb dX2_bestFor_30 rfl (lv_at hl 3 rfl) ?_
      refine lv_iconst (v := (-1)) hx hb dX2_bestFor_31 (by decide) ?_
      refine lv_icmp_eq (tgt := 44) hx hb dX2_bestFor_32 (by decide) (fun c_32 => ?_) (fun c_32 => ?_)
      · refine lv_iload_n hx hb dX2_bestFor_44 rfl (lv_at hl 2 rfl) ?_
        refine lv_istore_n (lv' := [(2, .int (nI k)), (0, .ref (o)), (1, .int (nI jc)), (3, .int (nI k))]) hx hb dX2_bestFor_45 rfl hl (by decide) rfl (fun ls hl => ?_)
        refine lv_iinc (v := nI (k + 1)) (lv' := [(3, .int (nI (k + 1))), (2, .int (nI k)), (0, .ref (o)), (1, .int (nI jc))]) hx hb dX2_bestFor_46 hl (k := 3) rfl (nI_c1 _) (by decide) rfl (fun ls hl => ?_)
        refine lv_goto (tgt := 4) hx hb dX2_bestFor_49 (by decide) ?_
        exact ih (k + 1) (nI k) (by omega) (by omega) (by first | exact hbs | exact Or.inr (best_ok (by omega) (by omega))) (((br_n c_9 (br_p c_18 (br_n c_27 (br_p c_32 rfl)))) : g_X2_bestFor_4 σ jc fu (k + 1) (nI k) = g_X2_bestFor_4 σ jc (fu + 1) k x2).trans hg_4) ls (lv_sub hl [2, 3, 0, 1] rfl)
      have hb2 := hbs.resolve_left c_32
      have hb3 := hb2.1
      refine lv_aload_n hx hb dX2_bestFor_35 rfl (lv_at hl 0 rfl) ?_
      refine lv_iload_n hx hb dX2_bestFor_36 rfl (lv_at hl 2 rfl) ?_
      refine lv_iload_n hx hb dX2_bestFor_37 rfl (lv_at hl 3 rfl) ?_
      refine sh_call (rest := []) hx hb hml hown hts hK hP (c_X2_goesAhead l D cI o a σ (nI k) k rfl x2 (tn x2) hb2.2 (by with_reducible assumption) (by first | with_reducible assumption | omega) (by first | with_reducible assumption | omega)) (kV_X2_goesAhead hts ml_X2_194 ⟨(Nat.le_of_ble_eq_true rfl), (Nat.le_of_ble_eq_true rfl)⟩) rfl hl.1 rfl (Nat.le_of_ble_eq_true rfl) dX2_bestFor_38 (Nat.zero_le _) (Nat.zero_le _) ?_
      refine lv_if_eq (tgt := 46) hx hb dX2_bestFor_41 (by decide) (fun c_41 => ?_) (fun c_41 => ?_)
      · refine lv_iinc (v := nI (k + 1)) (lv' := [(3, .int (nI (k + 1))), (0, .ref (o)), (1, .int (nI jc)), (2, .int (x2))]) hx hb dX2_bestFor_46 hl (k := 2) rfl (nI_c1 _) (by decide) rfl (fun ls hl => ?_)
        refine lv_goto (tgt := 4) hx hb dX2_bestFor_49 (by decide) ?_
        exact ih (k + 1) x2 (by omega) (by omega) (by first | exact hbs | exact Or.inr (best_ok (by omega) (by omega))) (((br_n c_9 (br_p c_18 (br_n c_27 (br_n c_32 (br_p c_41 rfl))))) : g_X2_bestFor_4 σ jc fu (k + 1) x2 = g_X2_bestFor_4 σ jc (fu + 1) k x2).trans hg_4) ls (lv_sub hl [1, 2, 0, 3] rfl)
      refine lv_iload_n hx hb dX2_bestFor_44 rfl (lv_at hl 2 rfl) ?_
      refine lv_istore_n (lv' := [(2, .int (nI k)), (0, .ref (o)), (1, .int (nI jc)), (3, .int (nI k))]) hx hb dX2_bestFor_45 rfl hl (by decide) rfl (fun ls hl => ?_)
      refine lv_iinc (v := nI (k + 1)) (lv' := [(3, .int (nI (k + 1))), (2, .int (nI k)), (0, .ref (o)), (1, .int (nI jc))]) hx hb dX2_bestFor_46 hl (k := 3) rfl (nI_c1 _) (by decide) rfl (fun ls hl => ?_)
      refine lv_goto (tgt := 4) hx hb dX2_bestFor_49 (by decide) ?_
      exact ih (k + 1) (nI k) (by omega) (by omega) (by first | exact hbs | exact Or.inr (best_ok (by omega) (by omega))) (((br_n c_9 (br_p c_18 (br_n c_27 (br_n c_32 (br_n c_41 rfl))))) : g_X2_bestFor_4 σ jc fu (k + 1) (nI k) = g_X2_bestFor_4 σ jc (fu + 1) k x2).trans hg_4) ls (lv_sub hl [2, 3, 0, 1] rfl)
  exact L_4 (nN σ + 1) 0 (-1) (by omega) (by omega) (Or.inl rfl) rfl ls (lv_sub hl [2, 3, 0, 1] rfl)
theorem kV_X2_bestFor {R : Room} {s : State} {args : Array Value} {own : String} {idx : Nat} {c0 : Cond} (hts : ∀ w ∈ c0 :: W0, w.before args s = true) (hl : Cond.methodLink own idx yX2_bestFor ∈ W0) (hR : rm_X2_bestFor.frames + 1 ≤ R.frames ∧ 8 + (4 + 11) + rm_X2_bestFor.locals ≤ R.locals) : CallW R s args own RX2 idx yX2_bestFor cX2_bestFor 4 (some .int) (Cond.code yX2_bestFor cX2_bestFor 4 (some .int) :: W0) rm_X2_bestFor 0 0 1 := cwV 1 hts (gdV hl mi_yX2_bestFor ms_yX2_bestFor mini_X2 mc_yX2_bestFor) rfl rfl rfl (by decide +kernel) hR

theorem bestFor_g {σ : Nat → Nat → Int32} {jc : Nat} (hN : nN σ ≤ 60) : ∀ (fu k : Nat) (b : Int32), (b = (-1) ∨ (tn b < nN σ ∧ b = nI (tn b))) → (g_X2_bestFor_4 σ jc fu k b = (-1) ∨ (tn (g_X2_bestFor_4 σ jc fu k b) < nN σ ∧ g_X2_bestFor_4 σ jc fu k b = nI (tn (g_X2_bestFor_4 σ jc fu k b)))) := by
  intro fu
  induction fu with
  | zero => intro k b h; exact h
  | succ fu ih =>
    intro k b h
    rw [g_X2_bestFor_4]
    (repeat' split) <;> first | exact h | exact ih _ _ h | exact ih _ _ (Or.inr (best_ok (by omega) hN))
theorem bestFor_ok {σ : Nat → Nat → Int32} (hok : okS σ) (jc : Nat) : f_X2_bestFor σ jc = (-1) ∨ (tn (f_X2_bestFor σ jc) < nN σ ∧ f_X2_bestFor σ jc = nI (tn (f_X2_bestFor σ jc))) :=
  bestFor_g (okS_b hok).2.2 (nN σ + 1) 0 (-1) (Or.inl rfl)

/-! X2.canRent -/
def g_X2_canRent_2 (σ : Nat → Nat → Int32) (x : Int32) (y : Int32) : Nat → (Nat) → Int32
  | 0, k => 0
  | fu + 1, k => (if nN σ ≤ k then (if 4 ≤ (f_X2_rentedBy σ x) then 0 else 1) else (if (f_X2_isRentedBy σ k x) = 0 then g_X2_canRent_2 σ x y fu (k + 1) else (if (σ 10 k) = y then 0 else g_X2_canRent_2 σ x y fu (k + 1))))
def f_X2_canRent (σ : Nat → Nat → Int32) (x : Int32) (y : Int32) : Int32 := g_X2_canRent_2 σ x y (nN σ + 1) 0
abbrev rm_X2_canRent : Room := { frames := 2, cells := 0, slots := 0, locals := 45 }
set_option maxRecDepth 100000 in
theorem c_X2_canRent (l : Launch) (D : va_G) (cI : ClassId) (o : Nat) (a : Nat → Nat) (σ : Nat → Nat → Int32) (x : Int32) (y : Int32) (hok : okS σ) :
    Met l yX2_canRent (Cond.code yX2_canRent cX2_canRent 4 (some .boolean) :: W0) rm_X2_canRent (va_Pc [.ref o, .int x, .int y] (shP D cI o a σ)) (vp_Si (fun r => r = f_X2_canRent σ x y)) 0 0 (fun _ => False) := by
  refine st_gen (cc := cX2_canRent) (maxL := 4) (ret := some .boolean) (own := RX2) (by decide) rfl (Nat.le_of_ble_eq_true rfl) ?_
  intro p e s m below meth c ls C hPre hl
  obtain ⟨hx, hb, hr, hml, hown, hts, hlk⟩ := C
  obtain ⟨hP, hK⟩ := hPre
  have hl : lv_has ls 4 [(0, .ref (o)), (1, .int (x)), (2, .int (y))] := hl
  obtain ⟨hT6, hC6, hN6⟩ := okS_b hok
  refine lv_iconst (v := 0) hx hb dX2_canRent_0 (by decide) ?_
  refine lv_istore_n (lv' := [(3, .int (0)), (0, .ref (o)), (1, .int (x)), (2, .int (y))]) hx hb dX2_canRent_1 rfl hl (by decide) rfl (fun ls hl => ?_)
  have ho_2 : g_X2_canRent_2 σ x y (nN σ + 1) 0 = f_X2_canRent σ x y := rfl
  have L_2 : ∀ (fu : Nat) (k : Nat), nN σ - k < fu → k ≤ nN σ → g_X2_canRent_2 σ x y fu k = g_X2_canRent_2 σ x y (nN σ + 1) 0 → ∀ ls, lv_has ls 4 [(0, .ref (o)), (1, .int (x)), (2, .int (y)), (3, .int (nI k))] → W p l e rm_X2_canRent s m (([.ref (o), .int (x), .int (y)] : List Value).toArray) below meth c s.heap [] 0 0 (MQ below (vp_Si (fun r => r = f_X2_canRent σ x y)) ([.ref (o), .int (x), .int (y)] : List Value).toArray s 0 0 (fun _ => False)) (F0 m 2 ls []) := by
    intro fu
    induction fu with
    | zero => intro k hm; exact absurd hm (Nat.not_lt_zero _)
    | succ fu ih =>
      intro k hm hkN hg_2 ls hl
      refine lv_iload_n hx hb dX2_canRent_2 rfl (lv_at hl 3 rfl) ?_
      refine lv_aload_n hx hb dX2_canRent_3 rfl (lv_at hl 0 rfl) ?_
      refine sh_g3 hx hb hts hown hK hP (v := σ 3 0) rfl dX2_canRent_4 ?_
      refine lv_icmp_geN (k) (nN σ) hx hb rfl (okS_3 (σ := σ) (by with_reducible assumption)) (by omega) (by omega) (tgt := 37) dX2_canRent_7 (by decide) (fun c_7 => ?_) (fun c_7 => ?_)
      · refine lv_aload_n hx hb dX2_canRent_37 rfl (lv_at hl 0 rfl) ?_
        refine lv_iload_n hx hb dX2_canRent_38 rfl (lv_at hl 1 rfl) ?_
        refine sh_call (rest := []) hx hb hml hown hts hK hP (c_X2_rentedBy l D cI o a σ x (by with_reducible assumption)) (kV_X2_rentedBy hts ml_X2_151 ⟨(Nat.le_of_ble_eq_true rfl), (Nat.le_of_ble_eq_true rfl)⟩) rfl hl.1 rfl (Nat.le_of_ble_eq_true rfl) dX2_canRent_39 (Nat.zero_le _) (Nat.zero_le _) ?_
        refine lv_iconst (v := 4) hx hb dX2_canRent_42 (by decide) ?_
        refine lv_icmp_ge (tgt := 50) hx hb dX2_canRent_43 (by decide) (fun c_43 => ?_) (fun c_43 => ?_)
        · refine lv_iconst (v := 0) hx hb dX2_canRent_50 (by decide) ?_
          exact fin_z hx hb hr hlk (Or.inl rfl) (((br_p c_7 (br_p c_43 rfl)) : _ = g_X2_canRent_2 σ x y (fu + 1) k).trans (hg_2.trans ho_2)) dX2_canRent_51
        refine lv_iconst (v := 1) hx hb dX2_canRent_46 (by decide) ?_
        refine lv_goto (tgt := 51) hx hb dX2_canRent_47 (by decide) ?_
        exact fin_z hx hb hr hlk (Or.inr rfl) (((br_p c_7 (br_n c_43 rfl)) : _ = g_X2_canRent_2 σ x y (fu + 1) k).trans (hg_2.trans ho_2)) dX2_canRent_51
      refine lv_aload_n hx hb dX2_canRent_10 rfl (lv_at hl 0 rfl) ?_
      refine lv_iload_n hx hb dX2_canRent_11 rfl (lv_at hl 3 rfl) ?_
      refine lv_iload_n hx hb dX2_canRent_12 rfl (lv_at hl 1 rfl) ?_
      refine sh_call (rest := []) hx hb hml hown hts hK hP (c_X2_isRentedBy l D cI o a σ (nI k) k rfl x (by with_reducible assumption) (by first | with_reducible assumption | omega)) (kV_X2_isRentedBy hts ml_X2_197 ⟨(Nat.le_of_ble_eq_true rfl), (Nat.le_of_ble_eq_true rfl)⟩) rfl hl.1 rfl (Nat.le_of_ble_eq_true rfl) dX2_canRent_13 (Nat.zero_le _) (Nat.zero_le _) ?_
      refine lv_if_eq (tgt := 31) hx hb dX2_canRent_16 (by decide) (fun c_16 => ?_) (fun c_16 => ?_)
      · refine lv_iinc (v := nI (k + 1)) (lv' := [(3, .int (nI (k + 1))), (0, .ref (o)), (1, .int (x)), (2, .int (y))]) hx hb dX2_canRent_31 hl (k := 3) rfl (nI_c1 _) (by decide) rfl (fun ls hl => ?_)
        refine lv_goto (tgt := 2) hx hb dX2_canRent_34 (by decide) ?_
        exact ih (k + 1) (by omega) (by omega) (((br_n c_7 (br_p c_16 rfl)) : g_X2_canRent_2 σ x y fu (k + 1) = g_X2_canRent_2 σ x y (fu + 1) k).trans hg_2) ls (lv_sub hl [1, 2, 3, 0] rfl)
      refine lv_aload_n hx hb dX2_canRent_19 rfl (lv_at hl 0 rfl) ?_
      refine sh_g10 hx hb hts hown hK hP dX2_canRent_20 ?_
      refine lv_iload_n hx hb dX2_canRent_23 rfl (lv_at hl 3 rfl) ?_
      refine sh_r10 hx hb hK hP (k) rfl (by omega) (v := σ 10 k) rfl dX2_canRent_24 ?_
      refine lv_iload_n hx hb dX2_canRent_25 rfl (lv_at hl 2 rfl) ?_
      refine lv_icmp_ne (tgt := 31) hx hb dX2_canRent_26 (by decide) (fun c_26 => ?_) (fun c_26 => ?_)
      · refine lv_iinc (v := nI (k + 1)) (lv' := [(3, .int (nI (k + 1))), (0, .ref (o)), (1, .int (x)), (2, .int (y))]) hx hb dX2_canRent_31 hl (k := 3) rfl (nI_c1 _) (by decide) rfl (fun ls hl => ?_)
        refine lv_goto (tgt := 2) hx hb dX2_canRent_34 (by decide) ?_
        exact ih (k + 1) (by omega) (by omega) (((br_n c_7 (br_n c_16 (br_n c_26 rfl))) : g_X2_canRent_2 σ x y fu (k + 1) = g_X2_canRent_2 σ x y (fu + 1) k).trans hg_2) ls (lv_sub hl [1, 2, 3, 0] rfl)
      refine lv_iconst (v := 0) hx hb dX2_canRent_29 (by decide) ?_
      exact fin_z hx hb hr hlk (Or.inl rfl) (((br_n c_7 (br_n c_16 (br_p c_26 rfl))) : _ = g_X2_canRent_2 σ x y (fu + 1) k).trans (hg_2.trans ho_2)) dX2_canRent_30
  exact L_2 (nN σ + 1) 0 (by omega) (by omega) rfl ls (lv_sub hl [1, 2, 3, 0] rfl)
theorem kV_X2_canRent {R : Room} {s : State} {args : Array Value} {own : String} {idx : Nat} {c0 : Cond} (hts : ∀ w ∈ c0 :: W0, w.before args s = true) (hl : Cond.methodLink own idx yX2_canRent ∈ W0) (hR : rm_X2_canRent.frames + 1 ≤ R.frames ∧ 8 + (4 + 11) + rm_X2_canRent.locals ≤ R.locals) : CallW R s args own RX2 idx yX2_canRent cX2_canRent 4 (some .boolean) (Cond.code yX2_canRent cX2_canRent 4 (some .boolean) :: W0) rm_X2_canRent 0 0 2 := cwV 2 hts (gdV hl mi_yX2_canRent ms_yX2_canRent mini_X2 mc_yX2_canRent) rfl rfl rfl (by decide +kernel) hR

theorem z_g_X2_canRent_2 {σ : Nat → Nat → Int32} {x : Int32} {y : Int32} : ∀ (fu : Nat) (k : Nat), g_X2_canRent_2 σ x y fu k = 0 ∨ g_X2_canRent_2 σ x y fu k = 1 := by
  intro fu
  induction fu with
  | zero => intros; exact Or.inl rfl
  | succ fu ih =>
    intros
    rw [g_X2_canRent_2]
    (repeat' split) <;> first | exact Or.inl rfl | exact Or.inr rfl | exact ih .. | exact z_X2_isRentedBy

theorem z_X2_canRent {σ : Nat → Nat → Int32} {x : Int32} {y : Int32} : f_X2_canRent σ x y = 0 ∨ f_X2_canRent σ x y = 1 := by
  unfold f_X2_canRent
  (repeat' split) <;> first | exact Or.inl rfl | exact Or.inr rfl | exact z_X2_isRentedBy | exact z_g_X2_canRent_2 ..

/-! X2.nextCopy -/
def f_X2_nextCopy (σ : Nat → Nat → Int32) (x : Int32) : Int32 := (if (f_X2_hasCourse σ x) = 0 then (-2) else (f_X2_bestFor σ (tn x)))
abbrev rm_X2_nextCopy : Room := { frames := 3, cells := 0, slots := 0, locals := 68 }
set_option maxRecDepth 100000 in
theorem c_X2_nextCopy (l : Launch) (D : va_G) (cI : ClassId) (o : Nat) (a : Nat → Nat) (σ : Nat → Nat → Int32) (x : Int32) (hok : okS σ) :
    Met l yX2_nextCopy (Cond.code yX2_nextCopy cX2_nextCopy 2 (some .int) :: W0) rm_X2_nextCopy (va_Pc [.ref o, .int x] (shP D cI o a σ)) (vp_Si (fun r => r = f_X2_nextCopy σ x)) 0 0 (fun _ => False) := by
  refine st_gen (cc := cX2_nextCopy) (maxL := 2) (ret := some .int) (own := RX2) (by decide) rfl (Nat.le_of_ble_eq_true rfl) ?_
  intro p e s m below meth c ls C hPre hl
  obtain ⟨hx, hb, hr, hml, hown, hts, hlk⟩ := C
  obtain ⟨hP, hK⟩ := hPre
  have hl : lv_has ls 2 [(0, .ref (o)), (1, .int (x))] := hl
  obtain ⟨hT6, hC6, hN6⟩ := okS_b hok
  refine lv_aload_n hx hb dX2_nextCopy_0 rfl (lv_at hl 0 rfl) ?_
  refine lv_iload_n hx hb dX2_nextCopy_1 rfl (lv_at hl 1 rfl) ?_
  refine sh_call (rest := []) hx hb hml hown hts hK hP (c_X2_hasCourse l D cI o a σ x) (kV_X2_hasCourse hts ml_X2_97 ⟨(Nat.le_of_ble_eq_true rfl), (Nat.le_of_ble_eq_true rfl)⟩) rfl hl.1 rfl (Nat.le_of_ble_eq_true rfl) dX2_nextCopy_2 (Nat.zero_le _) (Nat.zero_le _) ?_
  refine lv_if_eq (tgt := 16) hx hb dX2_nextCopy_5 (by decide) (fun c_5 => ?_) (fun c_5 => ?_)
  · refine lv_bipush (v := (-2)) hx hb dX2_nextCopy_16 (by decide) ?_
    exact fin_i hx hb hr hlk (br_p c_5 rfl) dX2_nextCopy_18
  have v_5 := hasCourse_ok (σ := σ) (by with_reducible assumption) c_5
  have vb_5 := v_5.1
  refine lv_aload_n hx hb dX2_nextCopy_8 rfl (lv_at hl 0 rfl) ?_
  refine lv_iload_n hx hb dX2_nextCopy_9 rfl (lv_at hl 1 rfl) ?_
  refine sh_call (rest := []) hx hb hml hown hts hK hP (c_X2_bestFor l D cI o a σ x (tn x) v_5.2 (by with_reducible assumption) (by first | with_reducible assumption | omega)) (kV_X2_bestFor hts ml_X2_172 ⟨(Nat.le_of_ble_eq_true rfl), (Nat.le_of_ble_eq_true rfl)⟩) rfl hl.1 rfl (Nat.le_of_ble_eq_true rfl) dX2_nextCopy_10 (Nat.zero_le _) (Nat.zero_le _) ?_
  refine lv_goto (tgt := 18) hx hb dX2_nextCopy_13 (by decide) ?_
  exact fin_i hx hb hr hlk (br_n c_5 rfl) dX2_nextCopy_18
theorem kV_X2_nextCopy {R : Room} {s : State} {args : Array Value} {own : String} {idx : Nat} {c0 : Cond} (hts : ∀ w ∈ c0 :: W0, w.before args s = true) (hl : Cond.methodLink own idx yX2_nextCopy ∈ W0) (hR : rm_X2_nextCopy.frames + 1 ≤ R.frames ∧ 8 + (2 + 11) + rm_X2_nextCopy.locals ≤ R.locals) : CallW R s args own RX2 idx yX2_nextCopy cX2_nextCopy 2 (some .int) (Cond.code yX2_nextCopy cX2_nextCopy 2 (some .int) :: W0) rm_X2_nextCopy 0 0 1 := cwV 1 hts (gdV hl mi_yX2_nextCopy ms_yX2_nextCopy mini_X2 mc_yX2_nextCopy) rfl rfl rfl (by decide +kernel) hR

/-! X2.chargeFor -/
def f_X2_chargeFor (σ : Nat → Nat → Int32) (x : Int32) (y : Int32) (z : Int32) : Int32 := (if (f_X2_hasCopy σ x) = 0 then (-2) else (if (f_X2_isGrade y) = 0 then (-3) else (if (f_X2_isBetween z 0 2) = 0 then (-3) else (if (σ 13 (tn x)) = 1 then (if z = 1 then (if tn z = 0 then nI (0 + 0) else 0 + (f_X2_damageCharge σ (tn x) y)) else (if tn z = 0 then (f_X2_lateCharge σ (tn x)) + 0 else (f_X2_lateCharge σ (tn x)) + (f_X2_damageCharge σ (tn x) y))) else (-4)))))
abbrev rm_X2_chargeFor : Room := { frames := 4, cells := 0, slots := 0, locals := 93 }
set_option maxRecDepth 100000 in
theorem c_X2_chargeFor (l : Launch) (D : va_G) (cI : ClassId) (o : Nat) (a : Nat → Nat) (σ : Nat → Nat → Int32) (x : Int32) (y : Int32) (z : Int32) (hok : okS σ) :
    Met l yX2_chargeFor (Cond.code yX2_chargeFor cX2_chargeFor 6 (some .int) :: W0) rm_X2_chargeFor (va_Pc [.ref o, .int x, .int y, .int z] (shP D cI o a σ)) (vp_Si (fun r => r = f_X2_chargeFor σ x y z)) 0 0 (fun _ => False) := by
  refine st_gen (cc := cX2_chargeFor) (maxL := 6) (ret := some .int) (own := RX2) (by decide) rfl (Nat.le_of_ble_eq_true rfl) ?_
  intro p e s m below meth c ls C hPre hl
  obtain ⟨hx, hb, hr, hml, hown, hts, hlk⟩ := C
  obtain ⟨hP, hK⟩ := hPre
  have hl : lv_has ls 6 [(0, .ref (o)), (1, .int (x)), (2, .int (y)), (3, .int (z))] := hl
  obtain ⟨hT6, hC6, hN6⟩ := okS_b hok
  refine lv_aload_n hx hb dX2_chargeFor_0 rfl (lv_at hl 0 rfl) ?_
  refine lv_iload_n hx hb dX2_chargeFor_1 rfl (lv_at hl 1 rfl) ?_
  refine sh_call (rest := []) hx hb hml hown hts hK hP (c_X2_hasCopy l D cI o a σ x) (kV_X2_hasCopy hts ml_X2_128 ⟨(Nat.le_of_ble_eq_true rfl), (Nat.le_of_ble_eq_true rfl)⟩) rfl hl.1 rfl (Nat.le_of_ble_eq_true rfl) dX2_chargeFor_2 (Nat.zero_le _) (Nat.zero_le _) ?_
  refine lv_if_ne (tgt := 11) hx hb dX2_chargeFor_5 (by decide) (fun c_5 => ?_) (fun c_5 => ?_)
  · have v_5 := hasCopy_ok (σ := σ) (by with_reducible assumption) c_5
    have vb_5 := v_5.1
    refine lv_iload_n hx hb dX2_chargeFor_11 rfl (lv_at hl 2 rfl) ?_
    refine cl_S (rest := []) hx hb hml hown hts (c_X2_isGrade l y) (kS_X2_isGrade hts ml_X2_161 ⟨(Nat.le_of_ble_eq_true rfl), (Nat.le_of_ble_eq_true rfl)⟩) rfl hl.1 rfl (Nat.le_of_ble_eq_true rfl) dX2_chargeFor_12 (Nat.zero_le _) (Nat.zero_le _) ?_
    refine lv_if_eq (tgt := 27) hx hb dX2_chargeFor_15 (by decide) (fun c_15 => ?_) (fun c_15 => ?_)
    · refine lv_bipush (v := (-3)) hx hb dX2_chargeFor_27 (by decide) ?_
      exact fin_i hx hb hr hlk (br_n c_5 (br_p c_15 rfl)) dX2_chargeFor_29
    refine lv_iload_n hx hb dX2_chargeFor_18 rfl (lv_at hl 3 rfl) ?_
    refine lv_iconst (v := 0) hx hb dX2_chargeFor_19 (by decide) ?_
    refine lv_iconst (v := 2) hx hb dX2_chargeFor_20 (by decide) ?_
    refine cl_S (rest := []) hx hb hml hown hts (c_X2_isBetween l z 0 2) (kS_X2_isBetween hts ml_X2_93 ⟨(Nat.le_of_ble_eq_true rfl), (Nat.le_of_ble_eq_true rfl)⟩) rfl hl.1 rfl (Nat.le_of_ble_eq_true rfl) dX2_chargeFor_21 (Nat.zero_le _) (Nat.zero_le _) ?_
    refine lv_if_ne (tgt := 30) hx hb dX2_chargeFor_24 (by decide) (fun c_24 => ?_) (fun c_24 => ?_)
    · have v_24 := btwN 2 c_24 (by decide) rfl (by decide)
      have vb_24 := v_24.1
      refine lv_aload_n hx hb dX2_chargeFor_30 rfl (lv_at hl 0 rfl) ?_
      refine sh_g13 hx hb hts hown hK hP dX2_chargeFor_31 ?_
      refine lv_iload_n hx hb dX2_chargeFor_34 rfl (lv_at hl 1 rfl) ?_
      refine sh_r13 hx hb hK hP (tn x) v_5.2 (by omega) (v := σ 13 (tn x)) rfl dX2_chargeFor_35 ?_
      refine lv_iconst (v := 1) hx hb dX2_chargeFor_36 (by decide) ?_
      refine lv_icmp_eq (tgt := 43) hx hb dX2_chargeFor_37 (by decide) (fun c_37 => ?_) (fun c_37 => ?_)
      · refine lv_iload_n hx hb dX2_chargeFor_43 rfl (lv_at hl 3 rfl) ?_
        refine lv_iconst (v := 1) hx hb dX2_chargeFor_44 (by decide) ?_
        refine lv_icmp_ne (tgt := 52) hx hb dX2_chargeFor_45 (by decide) (fun c_45 => ?_) (fun c_45 => ?_)
        · refine lv_aload_n hx hb dX2_chargeFor_52 rfl (lv_at hl 0 rfl) ?_
          refine lv_iload_n hx hb dX2_chargeFor_53 rfl (lv_at hl 1 rfl) ?_
          refine sh_call (rest := []) hx hb hml hown hts hK hP (c_X2_lateCharge l D cI o a σ x (tn x) v_5.2 (by with_reducible assumption) (by first | with_reducible assumption | omega)) (kV_X2_lateCharge hts ml_X2_178 ⟨(Nat.le_of_ble_eq_true rfl), (Nat.le_of_ble_eq_true rfl)⟩) rfl hl.1 rfl (Nat.le_of_ble_eq_true rfl) dX2_chargeFor_54 (Nat.zero_le _) (Nat.zero_le _) ?_
          refine lv_istore (lv' := [(4, .int ((f_X2_lateCharge σ (tn x)))), (0, .ref (o)), (1, .int (x)), (2, .int (y)), (3, .int (z))]) hx hb dX2_chargeFor_57 hl (by decide) rfl (fun ls hl => ?_)
          refine lv_iload_n hx hb dX2_chargeFor_59 rfl (lv_at hl 4 rfl) ?_
          refine lv_if_neN (tn z) hx hb v_24.2 (by omega) (tgt := 67) dX2_chargeFor_60 (by decide) (fun c_60 => ?_) (fun c_60 => ?_)
          · refine lv_aload_n hx hb dX2_chargeFor_67 rfl (lv_at hl 1 rfl) ?_
            refine lv_iload_n hx hb dX2_chargeFor_68 rfl (lv_at hl 2 rfl) ?_
            refine lv_iload_n hx hb dX2_chargeFor_69 rfl (lv_at hl 3 rfl) ?_
            refine sh_call (rest := []) hx hb hml hown hts hK hP (c_X2_damageCharge l D cI o a σ x (tn x) v_5.2 y (by with_reducible assumption) (by first | with_reducible assumption | omega)) (kV_X2_damageCharge hts ml_X2_181 ⟨(Nat.le_of_ble_eq_true rfl), (Nat.le_of_ble_eq_true rfl)⟩) rfl hl.1 rfl (Nat.le_of_ble_eq_true rfl) dX2_chargeFor_70 (Nat.zero_le _) (Nat.zero_le _) ?_
            refine lv_istore (lv' := [(5, .int ((f_X2_damageCharge σ (tn x) y))), (4, .int ((f_X2_lateCharge σ (tn x)))), (0, .ref (o)), (1, .int (x)), (2, .int (y)), (3, .int (z))]) hx hb dX2_chargeFor_73 hl (by decide) rfl (fun ls hl => ?_)
            refine lv_iload hx hb dX2_chargeFor_75 (lv_at hl 1 rfl) ?_
            refine lv_iload hx hb dX2_chargeFor_77 (lv_at hl 0 rfl) ?_
            refine lv_iadd hx hb dX2_chargeFor_79 ?_
            exact fin_i hx hb hr hlk (br_n c_5 (br_n c_15 (br_n c_24 (br_p c_37 (br_n c_45 (br_n c_60 rfl)))))) dX2_chargeFor_80
          refine lv_iconst (v := 0) hx hb dX2_chargeFor_63 (by decide) ?_
          refine lv_goto (tgt := 73) hx hb dX2_chargeFor_64 (by decide) ?_
          refine lv_istore (lv' := [(5, .int (0)), (4, .int ((f_X2_lateCharge σ (tn x)))), (0, .ref (o)), (1, .int (x)), (2, .int (y)), (3, .int (z))]) hx hb dX2_chargeFor_73 hl (by decide) rfl (fun ls hl => ?_)
          refine lv_iload hx hb dX2_chargeFor_75 (lv_at hl 1 rfl) ?_
          refine lv_iload hx hb dX2_chargeFor_77 (lv_at hl 0 rfl) ?_
          refine lv_iadd hx hb dX2_chargeFor_79 ?_
          exact fin_i hx hb hr hlk (br_n c_5 (br_n c_15 (br_n c_24 (br_p c_37 (br_n c_45 (br_p c_60 rfl)))))) dX2_chargeFor_80
        refine lv_iconst (v := 0) hx hb dX2_chargeFor_48 (by decide) ?_
        refine lv_goto (tgt := 57) hx hb dX2_chargeFor_49 (by decide) ?_
        refine lv_istore (lv' := [(4, .int (0)), (0, .ref (o)), (1, .int (x)), (2, .int (y)), (3, .int (z))]) hx hb dX2_chargeFor_57 hl (by decide) rfl (fun ls hl => ?_)
        refine lv_iload_n hx hb dX2_chargeFor_59 rfl (lv_at hl 4 rfl) ?_
        refine lv_if_neN (tn z) hx hb v_24.2 (by omega) (tgt := 67) dX2_chargeFor_60 (by decide) (fun c_60 => ?_) (fun c_60 => ?_)
        · refine lv_aload_n hx hb dX2_chargeFor_67 rfl (lv_at hl 1 rfl) ?_
          refine lv_iload_n hx hb dX2_chargeFor_68 rfl (lv_at hl 2 rfl) ?_
          refine lv_iload_n hx hb dX2_chargeFor_69 rfl (lv_at hl 3 rfl) ?_
          refine sh_call (rest := []) hx hb hml hown hts hK hP (c_X2_damageCharge l D cI o a σ x (tn x) v_5.2 y (by with_reducible assumption) (by first | with_reducible assumption | omega)) (kV_X2_damageCharge hts ml_X2_181 ⟨(Nat.le_of_ble_eq_true rfl), (Nat.le_of_ble_eq_true rfl)⟩) rfl hl.1 rfl (Nat.le_of_ble_eq_true rfl) dX2_chargeFor_70 (Nat.zero_le _) (Nat.zero_le _) ?_
          refine lv_istore (lv' := [(5, .int ((f_X2_damageCharge σ (tn x) y))), (4, .int (0)), (0, .ref (o)), (1, .int (x)), (2, .int (y)), (3, .int (z))]) hx hb dX2_chargeFor_73 hl (by decide) rfl (fun ls hl => ?_)
          refine lv_iload hx hb dX2_chargeFor_75 (lv_at hl 1 rfl) ?_
          refine lv_iload hx hb dX2_chargeFor_77 (lv_at hl 0 rfl) ?_
          refine lv_iadd hx hb dX2_chargeFor_79 ?_
          exact fin_i hx hb hr hlk (br_n c_5 (br_n c_15 (br_n c_24 (br_p c_37 (br_p c_45 (br_n c_60 rfl)))))) dX2_chargeFor_80
        refine lv_iconst (v := 0) hx hb dX2_chargeFor_63 (by decide) ?_
        refine lv_goto (tgt := 73) hx hb dX2_chargeFor_64 (by decide) ?_
        refine lv_istore (lv' := [(5, .int (0)), (4, .int (0)), (0, .ref (o)), (1, .int (x)), (2, .int (y)), (3, .int (z))]) hx hb dX2_chargeFor_73 hl (by decide) rfl (fun ls hl => ?_)
        refine lv_iload hx hb dX2_chargeFor_75 (lv_at hl 1 rfl) ?_
        refine lv_iload hx hb dX2_chargeFor_77 (lv_at hl 0 rfl) ?_
        refine lv_iaddN (x := 0) (y := 0) hx hb rfl rfl dX2_chargeFor_79 ?_
        exact fin_i hx hb hr hlk (br_n c_5 (br_n c_15 (br_n c_24 (br_p c_37 (br_p c_45 (br_p c_60 rfl)))))) dX2_chargeFor_80
      refine lv_bipush (v := (-4)) hx hb dX2_chargeFor_40 (by decide) ?_
      exact fin_i hx hb hr hlk (br_n c_5 (br_n c_15 (br_n c_24 (br_n c_37 rfl)))) dX2_chargeFor_42
    refine lv_bipush (v := (-3)) hx hb dX2_chargeFor_27 (by decide) ?_
    exact fin_i hx hb hr hlk (br_n c_5 (br_n c_15 (br_p c_24 rfl))) dX2_chargeFor_29
  refine lv_bipush (v := (-2)) hx hb dX2_chargeFor_8 (by decide) ?_
  exact fin_i hx hb hr hlk (br_p c_5 rfl) dX2_chargeFor_10
theorem kV_X2_chargeFor {R : Room} {s : State} {args : Array Value} {own : String} {idx : Nat} {c0 : Cond} (hts : ∀ w ∈ c0 :: W0, w.before args s = true) (hl : Cond.methodLink own idx yX2_chargeFor ∈ W0) (hR : rm_X2_chargeFor.frames + 1 ≤ R.frames ∧ 8 + (6 + 11) + rm_X2_chargeFor.locals ≤ R.locals) : CallW R s args own RX2 idx yX2_chargeFor cX2_chargeFor 6 (some .int) (Cond.code yX2_chargeFor cX2_chargeFor 6 (some .int) :: W0) rm_X2_chargeFor 0 0 3 := cwV 3 hts (gdV hl mi_yX2_chargeFor ms_yX2_chargeFor mini_X2 mc_yX2_chargeFor) rfl rfl rfl (by decide +kernel) hR

/-! X2.numberOf -/
def f_X2_numberOf (σ : Nat → Nat → Int32) (x : Int32) : Int32 := (if x = 0 then σ 1 0 else (if x = 1 then σ 3 0 else (if x = 2 then σ 2 0 else (if x = 3 then σ 0 0 else (if x = 4 then (f_X2_copiesIn σ 0) else (if x = 5 then (f_X2_copiesIn σ 1) else (if x = 6 then (f_X2_copiesIn σ 2) else (if x = 7 then (f_X2_copiesIn σ 3) else (if x = 8 then (f_X2_copiesIn σ 4) else (if x = 9 then ((f_X2_copiesIn σ 0) + (f_X2_copiesIn σ 1)) + (f_X2_copiesIn σ 4) else (if x = 10 then σ 4 0 else (if x = 11 then σ 4 1 else (if x = 12 then σ 4 2 else (if x = 13 then σ 4 3 else (-3)))))))))))))))
abbrev rm_X2_numberOf : Room := { frames := 1, cells := 0, slots := 0, locals := 23 }
set_option maxRecDepth 100000 in
theorem c_X2_numberOf (l : Launch) (D : va_G) (cI : ClassId) (o : Nat) (a : Nat → Nat) (σ : Nat → Nat → Int32) (x : Int32) (hok : okS σ) :
    Met l yX2_numberOf (Cond.code yX2_numberOf cX2_numberOf 2 (some .int) :: W0) rm_X2_numberOf (va_Pc [.ref o, .int x] (shP D cI o a σ)) (vp_Si (fun r => r = f_X2_numberOf σ x)) 0 0 (fun _ => False) := by
  refine st_gen (cc := cX2_numberOf) (maxL := 2) (ret := some .int) (own := RX2) (by decide) rfl (Nat.le_of_ble_eq_true rfl) ?_
  intro p e s m below meth c ls C hPre hl
  obtain ⟨hx, hb, hr, hml, hown, hts, hlk⟩ := C
  obtain ⟨hP, hK⟩ := hPre
  have hl : lv_has ls 2 [(0, .ref (o)), (1, .int (x))] := hl
  obtain ⟨hT6, hC6, hN6⟩ := okS_b hok
  refine lv_iload_n hx hb dX2_numberOf_0 rfl (lv_at hl 1 rfl) ?_
  by_cases c_1_0 : x = 0
  · refine lv_sw_in (k := 0) (tgt := 72) hx hb dX2_numberOf_1 c_1_0 (by decide) (by decide) rfl (by decide) ?_
    refine lv_aload_n hx hb dX2_numberOf_72 rfl (lv_at hl 0 rfl) ?_
    refine sh_g1 hx hb hts hown hK hP (v := σ 1 0) rfl dX2_numberOf_73 ?_
    exact fin_i hx hb hr hlk (br_p c_1_0 rfl) dX2_numberOf_76
  by_cases c_1_1 : x = 1
  · refine lv_sw_in (k := 1) (tgt := 77) hx hb dX2_numberOf_1 c_1_1 (by decide) (by decide) rfl (by decide) ?_
    refine lv_aload_n hx hb dX2_numberOf_77 rfl (lv_at hl 0 rfl) ?_
    refine sh_g3 hx hb hts hown hK hP (v := σ 3 0) rfl dX2_numberOf_78 ?_
    exact fin_i hx hb hr hlk (br_n c_1_0 (br_p c_1_1 rfl)) dX2_numberOf_81
  by_cases c_1_2 : x = 2
  · refine lv_sw_in (k := 2) (tgt := 82) hx hb dX2_numberOf_1 c_1_2 (by decide) (by decide) rfl (by decide) ?_
    refine lv_aload_n hx hb dX2_numberOf_82 rfl (lv_at hl 0 rfl) ?_
    refine sh_g2 hx hb hts hown hK hP (v := σ 2 0) rfl dX2_numberOf_83 ?_
    exact fin_i hx hb hr hlk (br_n c_1_0 (br_n c_1_1 (br_p c_1_2 rfl))) dX2_numberOf_86
  by_cases c_1_3 : x = 3
  · refine lv_sw_in (k := 3) (tgt := 87) hx hb dX2_numberOf_1 c_1_3 (by decide) (by decide) rfl (by decide) ?_
    refine lv_aload_n hx hb dX2_numberOf_87 rfl (lv_at hl 0 rfl) ?_
    refine sh_g0 hx hb hts hown hK hP (v := σ 0 0) rfl dX2_numberOf_88 ?_
    exact fin_i hx hb hr hlk (br_n c_1_0 (br_n c_1_1 (br_n c_1_2 (br_p c_1_3 rfl)))) dX2_numberOf_91
  by_cases c_1_4 : x = 4
  · refine lv_sw_in (k := 4) (tgt := 92) hx hb dX2_numberOf_1 c_1_4 (by decide) (by decide) rfl (by decide) ?_
    refine lv_aload_n hx hb dX2_numberOf_92 rfl (lv_at hl 0 rfl) ?_
    refine lv_iconst (v := 0) hx hb dX2_numberOf_93 (by decide) ?_
    refine sh_call (rest := []) hx hb hml hown hts hK hP (c_X2_copiesIn l D cI o a σ 0 (by with_reducible assumption)) (kV_X2_copiesIn hts ml_X2_106 ⟨(Nat.le_of_ble_eq_true rfl), (Nat.le_of_ble_eq_true rfl)⟩) rfl hl.1 rfl (Nat.le_of_ble_eq_true rfl) dX2_numberOf_94 (Nat.zero_le _) (Nat.zero_le _) ?_
    exact fin_i hx hb hr hlk (br_n c_1_0 (br_n c_1_1 (br_n c_1_2 (br_n c_1_3 (br_p c_1_4 rfl))))) dX2_numberOf_97
  by_cases c_1_5 : x = 5
  · refine lv_sw_in (k := 5) (tgt := 98) hx hb dX2_numberOf_1 c_1_5 (by decide) (by decide) rfl (by decide) ?_
    refine lv_aload_n hx hb dX2_numberOf_98 rfl (lv_at hl 0 rfl) ?_
    refine lv_iconst (v := 1) hx hb dX2_numberOf_99 (by decide) ?_
    refine sh_call (rest := []) hx hb hml hown hts hK hP (c_X2_copiesIn l D cI o a σ 1 (by with_reducible assumption)) (kV_X2_copiesIn hts ml_X2_106 ⟨(Nat.le_of_ble_eq_true rfl), (Nat.le_of_ble_eq_true rfl)⟩) rfl hl.1 rfl (Nat.le_of_ble_eq_true rfl) dX2_numberOf_100 (Nat.zero_le _) (Nat.zero_le _) ?_
    exact fin_i hx hb hr hlk (br_n c_1_0 (br_n c_1_1 (br_n c_1_2 (br_n c_1_3 (br_n c_1_4 (br_p c_1_5 rfl)))))) dX2_numberOf_103
  by_cases c_1_6 : x = 6
  · refine lv_sw_in (k := 6) (tgt := 104) hx hb dX2_numberOf_1 c_1_6 (by decide) (by decide) rfl (by decide) ?_
    refine lv_aload_n hx hb dX2_numberOf_104 rfl (lv_at hl 0 rfl) ?_
    refine lv_iconst (v := 2) hx hb dX2_numberOf_105 (by decide) ?_
    refine sh_call (rest := []) hx hb hml hown hts hK hP (c_X2_copiesIn l D cI o a σ 2 (by with_reducible assumption)) (kV_X2_copiesIn hts ml_X2_106 ⟨(Nat.le_of_ble_eq_true rfl), (Nat.le_of_ble_eq_true rfl)⟩) rfl hl.1 rfl (Nat.le_of_ble_eq_true rfl) dX2_numberOf_106 (Nat.zero_le _) (Nat.zero_le _) ?_
    exact fin_i hx hb hr hlk (br_n c_1_0 (br_n c_1_1 (br_n c_1_2 (br_n c_1_3 (br_n c_1_4 (br_n c_1_5 (br_p c_1_6 rfl))))))) dX2_numberOf_109
  by_cases c_1_7 : x = 7
  · refine lv_sw_in (k := 7) (tgt := 110) hx hb dX2_numberOf_1 c_1_7 (by decide) (by decide) rfl (by decide) ?_
    refine lv_aload_n hx hb dX2_numberOf_110 rfl (lv_at hl 0 rfl) ?_
    refine lv_iconst (v := 3) hx hb dX2_numberOf_111 (by decide) ?_
    refine sh_call (rest := []) hx hb hml hown hts hK hP (c_X2_copiesIn l D cI o a σ 3 (by with_reducible assumption)) (kV_X2_copiesIn hts ml_X2_106 ⟨(Nat.le_of_ble_eq_true rfl), (Nat.le_of_ble_eq_true rfl)⟩) rfl hl.1 rfl (Nat.le_of_ble_eq_true rfl) dX2_numberOf_112 (Nat.zero_le _) (Nat.zero_le _) ?_
    exact fin_i hx hb hr hlk (br_n c_1_0 (br_n c_1_1 (br_n c_1_2 (br_n c_1_3 (br_n c_1_4 (br_n c_1_5 (br_n c_1_6 (br_p c_1_7 rfl)))))))) dX2_numberOf_115
  by_cases c_1_8 : x = 8
  · refine lv_sw_in (k := 8) (tgt := 116) hx hb dX2_numberOf_1 c_1_8 (by decide) (by decide) rfl (by decide) ?_
    refine lv_aload_n hx hb dX2_numberOf_116 rfl (lv_at hl 0 rfl) ?_
    refine lv_iconst (v := 4) hx hb dX2_numberOf_117 (by decide) ?_
    refine sh_call (rest := []) hx hb hml hown hts hK hP (c_X2_copiesIn l D cI o a σ 4 (by with_reducible assumption)) (kV_X2_copiesIn hts ml_X2_106 ⟨(Nat.le_of_ble_eq_true rfl), (Nat.le_of_ble_eq_true rfl)⟩) rfl hl.1 rfl (Nat.le_of_ble_eq_true rfl) dX2_numberOf_118 (Nat.zero_le _) (Nat.zero_le _) ?_
    exact fin_i hx hb hr hlk (br_n c_1_0 (br_n c_1_1 (br_n c_1_2 (br_n c_1_3 (br_n c_1_4 (br_n c_1_5 (br_n c_1_6 (br_n c_1_7 (br_p c_1_8 rfl))))))))) dX2_numberOf_121
  by_cases c_1_9 : x = 9
  · refine lv_sw_in (k := 9) (tgt := 122) hx hb dX2_numberOf_1 c_1_9 (by decide) (by decide) rfl (by decide) ?_
    refine lv_aload_n hx hb dX2_numberOf_122 rfl (lv_at hl 0 rfl) ?_
    refine lv_iconst (v := 0) hx hb dX2_numberOf_123 (by decide) ?_
    refine sh_call (rest := []) hx hb hml hown hts hK hP (c_X2_copiesIn l D cI o a σ 0 (by with_reducible assumption)) (kV_X2_copiesIn hts ml_X2_106 ⟨(Nat.le_of_ble_eq_true rfl), (Nat.le_of_ble_eq_true rfl)⟩) rfl hl.1 rfl (Nat.le_of_ble_eq_true rfl) dX2_numberOf_124 (Nat.zero_le _) (Nat.zero_le _) ?_
    refine lv_aload_n hx hb dX2_numberOf_127 rfl (lv_at hl 0 rfl) ?_
    refine lv_iconst (v := 1) hx hb dX2_numberOf_128 (by decide) ?_
    refine sh_call (rest := [.int ((f_X2_copiesIn σ 0))]) hx hb hml hown hts hK hP (c_X2_copiesIn l D cI o a σ 1 (by with_reducible assumption)) (kV_X2_copiesIn hts ml_X2_106 ⟨(Nat.le_of_ble_eq_true rfl), (Nat.le_of_ble_eq_true rfl)⟩) rfl hl.1 rfl (Nat.le_of_ble_eq_true rfl) dX2_numberOf_129 (Nat.zero_le _) (Nat.zero_le _) ?_
    refine lv_iadd hx hb dX2_numberOf_132 ?_
    refine lv_aload_n hx hb dX2_numberOf_133 rfl (lv_at hl 0 rfl) ?_
    refine lv_iconst (v := 4) hx hb dX2_numberOf_134 (by decide) ?_
    refine sh_call (rest := [.int ((f_X2_copiesIn σ 0) + (f_X2_copiesIn σ 1))]) hx hb hml hown hts hK hP (c_X2_copiesIn l D cI o a σ 4 (by with_reducible assumption)) (kV_X2_copiesIn hts ml_X2_106 ⟨(Nat.le_of_ble_eq_true rfl), (Nat.le_of_ble_eq_true rfl)⟩) rfl hl.1 rfl (Nat.le_of_ble_eq_true rfl) dX2_numberOf_135 (Nat.zero_le _) (Nat.zero_le _) ?_
    refine lv_iadd hx hb dX2_numberOf_138 ?_
    exact fin_i hx hb hr hlk (br_n c_1_0 (br_n c_1_1 (br_n c_1_2 (br_n c_1_3 (br_n c_1_4 (br_n c_1_5 (br_n c_1_6 (br_n c_1_7 (br_n c_1_8 (br_p c_1_9 rfl)))))))))) dX2_numberOf_139
  by_cases c_1_10 : x = 10
  · refine lv_sw_in (k := 10) (tgt := 140) hx hb dX2_numberOf_1 c_1_10 (by decide) (by decide) rfl (by decide) ?_
    refine lv_aload_n hx hb dX2_numberOf_140 rfl (lv_at hl 0 rfl) ?_
    refine sh_g4 hx hb hts hown hK hP dX2_numberOf_141 ?_
    refine lv_iconst (v := 0) hx hb dX2_numberOf_144 (by decide) ?_
    refine sh_r4 hx hb hK hP (0) rfl (by omega) (v := σ 4 0) rfl dX2_numberOf_145 ?_
    exact fin_i hx hb hr hlk (br_n c_1_0 (br_n c_1_1 (br_n c_1_2 (br_n c_1_3 (br_n c_1_4 (br_n c_1_5 (br_n c_1_6 (br_n c_1_7 (br_n c_1_8 (br_n c_1_9 (br_p c_1_10 rfl))))))))))) dX2_numberOf_146
  by_cases c_1_11 : x = 11
  · refine lv_sw_in (k := 11) (tgt := 147) hx hb dX2_numberOf_1 c_1_11 (by decide) (by decide) rfl (by decide) ?_
    refine lv_aload_n hx hb dX2_numberOf_147 rfl (lv_at hl 0 rfl) ?_
    refine sh_g4 hx hb hts hown hK hP dX2_numberOf_148 ?_
    refine lv_iconst (v := 1) hx hb dX2_numberOf_151 (by decide) ?_
    refine sh_r4 hx hb hK hP (1) rfl (by omega) (v := σ 4 1) rfl dX2_numberOf_152 ?_
    exact fin_i hx hb hr hlk (br_n c_1_0 (br_n c_1_1 (br_n c_1_2 (br_n c_1_3 (br_n c_1_4 (br_n c_1_5 (br_n c_1_6 (br_n c_1_7 (br_n c_1_8 (br_n c_1_9 (br_n c_1_10 (br_p c_1_11 rfl)))))))))))) dX2_numberOf_153
  by_cases c_1_12 : x = 12
  · refine lv_sw_in (k := 12) (tgt := 154) hx hb dX2_numberOf_1 c_1_12 (by decide) (by decide) rfl (by decide) ?_
    refine lv_aload_n hx hb dX2_numberOf_154 rfl (lv_at hl 0 rfl) ?_
    refine sh_g4 hx hb hts hown hK hP dX2_numberOf_155 ?_
    refine lv_iconst (v := 2) hx hb dX2_numberOf_158 (by decide) ?_
    refine sh_r4 hx hb hK hP (2) rfl (by omega) (v := σ 4 2) rfl dX2_numberOf_159 ?_
    exact fin_i hx hb hr hlk (br_n c_1_0 (br_n c_1_1 (br_n c_1_2 (br_n c_1_3 (br_n c_1_4 (br_n c_1_5 (br_n c_1_6 (br_n c_1_7 (br_n c_1_8 (br_n c_1_9 (br_n c_1_10 (br_n c_1_11 (br_p c_1_12 rfl))))))))))))) dX2_numberOf_160
  by_cases c_1_13 : x = 13
  · refine lv_sw_in (k := 13) (tgt := 161) hx hb dX2_numberOf_1 c_1_13 (by decide) (by decide) rfl (by decide) ?_
    refine lv_aload_n hx hb dX2_numberOf_161 rfl (lv_at hl 0 rfl) ?_
    refine sh_g4 hx hb hts hown hK hP dX2_numberOf_162 ?_
    refine lv_iconst (v := 3) hx hb dX2_numberOf_165 (by decide) ?_
    refine sh_r4 hx hb hK hP (3) rfl (by omega) (v := σ 4 3) rfl dX2_numberOf_166 ?_
    exact fin_i hx hb hr hlk (br_n c_1_0 (br_n c_1_1 (br_n c_1_2 (br_n c_1_3 (br_n c_1_4 (br_n c_1_5 (br_n c_1_6 (br_n c_1_7 (br_n c_1_8 (br_n c_1_9 (br_n c_1_10 (br_n c_1_11 (br_n c_1_12 (br_p c_1_13 rfl)))))))))))))) dX2_numberOf_167
  have tc_1_0 : x.toInt ≠ 0 := ne_toInt c_1_0
  have tc_1_1 : x.toInt ≠ 1 := ne_toInt c_1_1
  have tc_1_2 : x.toInt ≠ 2 := ne_toInt c_1_2
  have tc_1_3 : x.toInt ≠ 3 := ne_toInt c_1_3
  have tc_1_4 : x.toInt ≠ 4 := ne_toInt c_1_4
  have tc_1_5 : x.toInt ≠ 5 := ne_toInt c_1_5
  have tc_1_6 : x.toInt ≠ 6 := ne_toInt c_1_6
  have tc_1_7 : x.toInt ≠ 7 := ne_toInt c_1_7
  have tc_1_8 : x.toInt ≠ 8 := ne_toInt c_1_8
  have tc_1_9 : x.toInt ≠ 9 := ne_toInt c_1_9
  have tc_1_10 : x.toInt ≠ 10 := ne_toInt c_1_10
  have tc_1_11 : x.toInt ≠ 11 := ne_toInt c_1_11
  have tc_1_12 : x.toInt ≠ 12 := ne_toInt c_1_12
  have tc_1_13 : x.toInt ≠ 13 := ne_toInt c_1_13
  refine lv_tableOut (tgt := 168) hx hb dX2_numberOf_1 (by omega) (by decide) ?_
  refine lv_bipush (v := (-3)) hx hb dX2_numberOf_168 (by decide) ?_
  exact fin_i hx hb hr hlk (br_n c_1_0 (br_n c_1_1 (br_n c_1_2 (br_n c_1_3 (br_n c_1_4 (br_n c_1_5 (br_n c_1_6 (br_n c_1_7 (br_n c_1_8 (br_n c_1_9 (br_n c_1_10 (br_n c_1_11 (br_n c_1_12 (br_n c_1_13 rfl)))))))))))))) dX2_numberOf_170
theorem kV_X2_numberOf {R : Room} {s : State} {args : Array Value} {own : String} {idx : Nat} {c0 : Cond} (hts : ∀ w ∈ c0 :: W0, w.before args s = true) (hl : Cond.methodLink own idx yX2_numberOf ∈ W0) (hR : rm_X2_numberOf.frames + 1 ≤ R.frames ∧ 8 + (2 + 11) + rm_X2_numberOf.locals ≤ R.locals) : CallW R s args own RX2 idx yX2_numberOf cX2_numberOf 2 (some .int) (Cond.code yX2_numberOf cX2_numberOf 2 (some .int) :: W0) rm_X2_numberOf 0 0 1 := cwV 1 hts (gdV hl mi_yX2_numberOf ms_yX2_numberOf mini_X2 mc_yX2_numberOf) rfl rfl rfl (by decide +kernel) hR

/-! X2.titleProperty -/
def f_X2_titleProperty (σ : Nat → Nat → Int32) (x : Int32) (y : Int32) : Int32 := (if (f_X2_hasTitle σ x) = 0 then (-2) else (if y = 0 then σ 5 (tn x) else (if y = 1 then σ 6 (tn x) else (if y = 2 then (f_X2_demandOf σ x) else (if y = 3 then (f_X2_supplyOf σ x) else (if y = 4 then if 0 < ((f_X2_demandOf σ x) - (f_X2_supplyOf σ x)) then ((f_X2_demandOf σ x) - (f_X2_supplyOf σ x)) else 0 else (if y = 5 then (f_X2_copiesOf σ x) else (if y = 6 then (f_X2_copiesOfIn σ x 0) else (-3)))))))))
abbrev rm_X2_titleProperty : Room := { frames := 3, cells := 0, slots := 0, locals := 70 }
set_option maxRecDepth 100000 in
theorem c_X2_titleProperty (l : Launch) (D : va_G) (cI : ClassId) (o : Nat) (a : Nat → Nat) (σ : Nat → Nat → Int32) (x : Int32) (y : Int32) (hok : okS σ) :
    Met l yX2_titleProperty (Cond.code yX2_titleProperty cX2_titleProperty 3 (some .int) :: W0) rm_X2_titleProperty (va_Pc [.ref o, .int x, .int y] (shP D cI o a σ)) (vp_Si (fun r => r = f_X2_titleProperty σ x y)) 0 0 (fun _ => False) := by
  refine st_gen (cc := cX2_titleProperty) (maxL := 3) (ret := some .int) (own := RX2) (by decide) rfl (Nat.le_of_ble_eq_true rfl) ?_
  intro p e s m below meth c ls C hPre hl
  obtain ⟨hx, hb, hr, hml, hown, hts, hlk⟩ := C
  obtain ⟨hP, hK⟩ := hPre
  have hl : lv_has ls 3 [(0, .ref (o)), (1, .int (x)), (2, .int (y))] := hl
  obtain ⟨hT6, hC6, hN6⟩ := okS_b hok
  refine lv_aload_n hx hb dX2_titleProperty_0 rfl (lv_at hl 0 rfl) ?_
  refine lv_iload_n hx hb dX2_titleProperty_1 rfl (lv_at hl 1 rfl) ?_
  refine sh_call (rest := []) hx hb hml hown hts hK hP (c_X2_hasTitle l D cI o a σ x) (kV_X2_hasTitle hts ml_X2_90 ⟨(Nat.le_of_ble_eq_true rfl), (Nat.le_of_ble_eq_true rfl)⟩) rfl hl.1 rfl (Nat.le_of_ble_eq_true rfl) dX2_titleProperty_2 (Nat.zero_le _) (Nat.zero_le _) ?_
  refine lv_if_ne (tgt := 11) hx hb dX2_titleProperty_5 (by decide) (fun c_5 => ?_) (fun c_5 => ?_)
  · have v_5 := hasTitle_ok (σ := σ) (by with_reducible assumption) c_5
    have vb_5 := v_5.1
    refine lv_iload_n hx hb dX2_titleProperty_11 rfl (lv_at hl 2 rfl) ?_
    by_cases c_12_0 : y = 0
    · refine lv_sw_in (k := 0) (tgt := 56) hx hb dX2_titleProperty_12 c_12_0 (by decide) (by decide) rfl (by decide) ?_
      refine lv_aload_n hx hb dX2_titleProperty_56 rfl (lv_at hl 0 rfl) ?_
      refine sh_g5 hx hb hts hown hK hP dX2_titleProperty_57 ?_
      refine lv_iload_n hx hb dX2_titleProperty_60 rfl (lv_at hl 1 rfl) ?_
      refine sh_r5 hx hb hK hP (tn x) v_5.2 (by omega) (v := σ 5 (tn x)) rfl dX2_titleProperty_61 ?_
      exact fin_i hx hb hr hlk (br_n c_5 (br_p c_12_0 rfl)) dX2_titleProperty_62
    by_cases c_12_1 : y = 1
    · refine lv_sw_in (k := 1) (tgt := 63) hx hb dX2_titleProperty_12 c_12_1 (by decide) (by decide) rfl (by decide) ?_
      refine lv_aload_n hx hb dX2_titleProperty_63 rfl (lv_at hl 0 rfl) ?_
      refine sh_g6 hx hb hts hown hK hP dX2_titleProperty_64 ?_
      refine lv_iload_n hx hb dX2_titleProperty_67 rfl (lv_at hl 1 rfl) ?_
      refine sh_r6 hx hb hK hP (tn x) v_5.2 (by omega) (v := σ 6 (tn x)) rfl dX2_titleProperty_68 ?_
      exact fin_i hx hb hr hlk (br_n c_5 (br_n c_12_0 (br_p c_12_1 rfl))) dX2_titleProperty_69
    by_cases c_12_2 : y = 2
    · refine lv_sw_in (k := 2) (tgt := 70) hx hb dX2_titleProperty_12 c_12_2 (by decide) (by decide) rfl (by decide) ?_
      refine lv_aload_n hx hb dX2_titleProperty_70 rfl (lv_at hl 0 rfl) ?_
      refine lv_iload_n hx hb dX2_titleProperty_71 rfl (lv_at hl 1 rfl) ?_
      refine sh_call (rest := []) hx hb hml hown hts hK hP (c_X2_demandOf l D cI o a σ x (by with_reducible assumption)) (kV_X2_demandOf hts ml_X2_110 ⟨(Nat.le_of_ble_eq_true rfl), (Nat.le_of_ble_eq_true rfl)⟩) rfl hl.1 rfl (Nat.le_of_ble_eq_true rfl) dX2_titleProperty_72 (Nat.zero_le _) (Nat.zero_le _) ?_
      exact fin_i hx hb hr hlk (br_n c_5 (br_n c_12_0 (br_n c_12_1 (br_p c_12_2 rfl)))) dX2_titleProperty_75
    by_cases c_12_3 : y = 3
    · refine lv_sw_in (k := 3) (tgt := 76) hx hb dX2_titleProperty_12 c_12_3 (by decide) (by decide) rfl (by decide) ?_
      refine lv_aload_n hx hb dX2_titleProperty_76 rfl (lv_at hl 0 rfl) ?_
      refine lv_iload_n hx hb dX2_titleProperty_77 rfl (lv_at hl 1 rfl) ?_
      refine sh_call (rest := []) hx hb hml hown hts hK hP (c_X2_supplyOf l D cI o a σ x (by with_reducible assumption)) (kV_X2_supplyOf hts ml_X2_113 ⟨(Nat.le_of_ble_eq_true rfl), (Nat.le_of_ble_eq_true rfl)⟩) rfl hl.1 rfl (Nat.le_of_ble_eq_true rfl) dX2_titleProperty_78 (Nat.zero_le _) (Nat.zero_le _) ?_
      exact fin_i hx hb hr hlk (br_n c_5 (br_n c_12_0 (br_n c_12_1 (br_n c_12_2 (br_p c_12_3 rfl))))) dX2_titleProperty_81
    by_cases c_12_4 : y = 4
    · refine lv_sw_in (k := 4) (tgt := 82) hx hb dX2_titleProperty_12 c_12_4 (by decide) (by decide) rfl (by decide) ?_
      refine lv_iconst (v := 0) hx hb dX2_titleProperty_82 (by decide) ?_
      refine lv_aload_n hx hb dX2_titleProperty_83 rfl (lv_at hl 0 rfl) ?_
      refine lv_iload_n hx hb dX2_titleProperty_84 rfl (lv_at hl 1 rfl) ?_
      refine sh_call (rest := [.int (0)]) hx hb hml hown hts hK hP (c_X2_demandOf l D cI o a σ x (by with_reducible assumption)) (kV_X2_demandOf hts ml_X2_110 ⟨(Nat.le_of_ble_eq_true rfl), (Nat.le_of_ble_eq_true rfl)⟩) rfl hl.1 rfl (Nat.le_of_ble_eq_true rfl) dX2_titleProperty_85 (Nat.zero_le _) (Nat.zero_le _) ?_
      refine lv_aload_n hx hb dX2_titleProperty_88 rfl (lv_at hl 0 rfl) ?_
      refine lv_iload_n hx hb dX2_titleProperty_89 rfl (lv_at hl 1 rfl) ?_
      refine sh_call (rest := [.int ((f_X2_demandOf σ x)), .int (0)]) hx hb hml hown hts hK hP (c_X2_supplyOf l D cI o a σ x (by with_reducible assumption)) (kV_X2_supplyOf hts ml_X2_113 ⟨(Nat.le_of_ble_eq_true rfl), (Nat.le_of_ble_eq_true rfl)⟩) rfl hl.1 rfl (Nat.le_of_ble_eq_true rfl) dX2_titleProperty_90 (Nat.zero_le _) (Nat.zero_le _) ?_
      refine lv_isub hx hb dX2_titleProperty_93 ?_
      refine r_max hx hb hml hown hts hl.1 ml_X2_116 (Nat.le_of_ble_eq_true rfl) (Nat.le_of_ble_eq_true rfl) (Nat.zero_le _) (Nat.zero_le _) (rest := []) dX2_titleProperty_94 ?_
      exact fin_i hx hb hr hlk (br_n c_5 (br_n c_12_0 (br_n c_12_1 (br_n c_12_2 (br_n c_12_3 (br_p c_12_4 rfl)))))) dX2_titleProperty_97
    by_cases c_12_5 : y = 5
    · refine lv_sw_in (k := 5) (tgt := 98) hx hb dX2_titleProperty_12 c_12_5 (by decide) (by decide) rfl (by decide) ?_
      refine lv_aload_n hx hb dX2_titleProperty_98 rfl (lv_at hl 0 rfl) ?_
      refine lv_iload_n hx hb dX2_titleProperty_99 rfl (lv_at hl 1 rfl) ?_
      refine sh_call (rest := []) hx hb hml hown hts hK hP (c_X2_copiesOf l D cI o a σ x (by with_reducible assumption)) (kV_X2_copiesOf hts ml_X2_119 ⟨(Nat.le_of_ble_eq_true rfl), (Nat.le_of_ble_eq_true rfl)⟩) rfl hl.1 rfl (Nat.le_of_ble_eq_true rfl) dX2_titleProperty_100 (Nat.zero_le _) (Nat.zero_le _) ?_
      exact fin_i hx hb hr hlk (br_n c_5 (br_n c_12_0 (br_n c_12_1 (br_n c_12_2 (br_n c_12_3 (br_n c_12_4 (br_p c_12_5 rfl))))))) dX2_titleProperty_103
    by_cases c_12_6 : y = 6
    · refine lv_sw_in (k := 6) (tgt := 104) hx hb dX2_titleProperty_12 c_12_6 (by decide) (by decide) rfl (by decide) ?_
      refine lv_aload_n hx hb dX2_titleProperty_104 rfl (lv_at hl 0 rfl) ?_
      refine lv_iload_n hx hb dX2_titleProperty_105 rfl (lv_at hl 1 rfl) ?_
      refine lv_iconst (v := 0) hx hb dX2_titleProperty_106 (by decide) ?_
      refine sh_call (rest := []) hx hb hml hown hts hK hP (c_X2_copiesOfIn l D cI o a σ x 0 (by with_reducible assumption)) (kV_X2_copiesOfIn hts ml_X2_122 ⟨(Nat.le_of_ble_eq_true rfl), (Nat.le_of_ble_eq_true rfl)⟩) rfl hl.1 rfl (Nat.le_of_ble_eq_true rfl) dX2_titleProperty_107 (Nat.zero_le _) (Nat.zero_le _) ?_
      exact fin_i hx hb hr hlk (br_n c_5 (br_n c_12_0 (br_n c_12_1 (br_n c_12_2 (br_n c_12_3 (br_n c_12_4 (br_n c_12_5 (br_p c_12_6 rfl)))))))) dX2_titleProperty_110
    have tc_12_0 : y.toInt ≠ 0 := ne_toInt c_12_0
    have tc_12_1 : y.toInt ≠ 1 := ne_toInt c_12_1
    have tc_12_2 : y.toInt ≠ 2 := ne_toInt c_12_2
    have tc_12_3 : y.toInt ≠ 3 := ne_toInt c_12_3
    have tc_12_4 : y.toInt ≠ 4 := ne_toInt c_12_4
    have tc_12_5 : y.toInt ≠ 5 := ne_toInt c_12_5
    have tc_12_6 : y.toInt ≠ 6 := ne_toInt c_12_6
    refine lv_tableOut (tgt := 111) hx hb dX2_titleProperty_12 (by omega) (by decide) ?_
    refine lv_bipush (v := (-3)) hx hb dX2_titleProperty_111 (by decide) ?_
    exact fin_i hx hb hr hlk (br_n c_5 (br_n c_12_0 (br_n c_12_1 (br_n c_12_2 (br_n c_12_3 (br_n c_12_4 (br_n c_12_5 (br_n c_12_6 rfl)))))))) dX2_titleProperty_113
  refine lv_bipush (v := (-2)) hx hb dX2_titleProperty_8 (by decide) ?_
  exact fin_i hx hb hr hlk (br_p c_5 rfl) dX2_titleProperty_10
theorem kV_X2_titleProperty {R : Room} {s : State} {args : Array Value} {own : String} {idx : Nat} {c0 : Cond} (hts : ∀ w ∈ c0 :: W0, w.before args s = true) (hl : Cond.methodLink own idx yX2_titleProperty ∈ W0) (hR : rm_X2_titleProperty.frames + 1 ≤ R.frames ∧ 8 + (3 + 11) + rm_X2_titleProperty.locals ≤ R.locals) : CallW R s args own RX2 idx yX2_titleProperty cX2_titleProperty 3 (some .int) (Cond.code yX2_titleProperty cX2_titleProperty 3 (some .int) :: W0) rm_X2_titleProperty 0 0 2 := cwV 2 hts (gdV hl mi_yX2_titleProperty ms_yX2_titleProperty mini_X2 mc_yX2_titleProperty) rfl rfl rfl (by decide +kernel) hR

/-! X2.courseProperty -/
def f_X2_courseProperty (σ : Nat → Nat → Int32) (x : Int32) (y : Int32) : Int32 := (if (f_X2_hasCourse σ x) = 0 then (-2) else (if y = 0 then σ 7 (tn x) else (if y = 1 then σ 8 (tn x) else (if y = 2 then σ 9 (tn x) else (if y = 3 then (f_X2_stockFor σ (tn x)) else (-3))))))
abbrev rm_X2_courseProperty : Room := { frames := 3, cells := 0, slots := 0, locals := 68 }
set_option maxRecDepth 100000 in
theorem c_X2_courseProperty (l : Launch) (D : va_G) (cI : ClassId) (o : Nat) (a : Nat → Nat) (σ : Nat → Nat → Int32) (x : Int32) (y : Int32) (hok : okS σ) :
    Met l yX2_courseProperty (Cond.code yX2_courseProperty cX2_courseProperty 3 (some .int) :: W0) rm_X2_courseProperty (va_Pc [.ref o, .int x, .int y] (shP D cI o a σ)) (vp_Si (fun r => r = f_X2_courseProperty σ x y)) 0 0 (fun _ => False) := by
  refine st_gen (cc := cX2_courseProperty) (maxL := 3) (ret := some .int) (own := RX2) (by decide) rfl (Nat.le_of_ble_eq_true rfl) ?_
  intro p e s m below meth c ls C hPre hl
  obtain ⟨hx, hb, hr, hml, hown, hts, hlk⟩ := C
  obtain ⟨hP, hK⟩ := hPre
  have hl : lv_has ls 3 [(0, .ref (o)), (1, .int (x)), (2, .int (y))] := hl
  obtain ⟨hT6, hC6, hN6⟩ := okS_b hok
  refine lv_aload_n hx hb dX2_courseProperty_0 rfl (lv_at hl 0 rfl) ?_
  refine lv_iload_n hx hb dX2_courseProperty_1 rfl (lv_at hl 1 rfl) ?_
  refine sh_call (rest := []) hx hb hml hown hts hK hP (c_X2_hasCourse l D cI o a σ x) (kV_X2_hasCourse hts ml_X2_97 ⟨(Nat.le_of_ble_eq_true rfl), (Nat.le_of_ble_eq_true rfl)⟩) rfl hl.1 rfl (Nat.le_of_ble_eq_true rfl) dX2_courseProperty_2 (Nat.zero_le _) (Nat.zero_le _) ?_
  refine lv_if_ne (tgt := 11) hx hb dX2_courseProperty_5 (by decide) (fun c_5 => ?_) (fun c_5 => ?_)
  · have v_5 := hasCourse_ok (σ := σ) (by with_reducible assumption) c_5
    have vb_5 := v_5.1
    refine lv_iload_n hx hb dX2_courseProperty_11 rfl (lv_at hl 2 rfl) ?_
    by_cases c_12_0 : y = 0
    · refine lv_sw_in (k := 0) (tgt := 44) hx hb dX2_courseProperty_12 c_12_0 (by decide) (by decide) rfl (by decide) ?_
      refine lv_aload_n hx hb dX2_courseProperty_44 rfl (lv_at hl 0 rfl) ?_
      refine sh_g7 hx hb hts hown hK hP dX2_courseProperty_45 ?_
      refine lv_iload_n hx hb dX2_courseProperty_48 rfl (lv_at hl 1 rfl) ?_
      refine sh_r7 hx hb hK hP (tn x) v_5.2 (by omega) (v := σ 7 (tn x)) rfl dX2_courseProperty_49 ?_
      exact fin_i hx hb hr hlk (br_n c_5 (br_p c_12_0 rfl)) dX2_courseProperty_50
    by_cases c_12_1 : y = 1
    · refine lv_sw_in (k := 1) (tgt := 51) hx hb dX2_courseProperty_12 c_12_1 (by decide) (by decide) rfl (by decide) ?_
      refine lv_aload_n hx hb dX2_courseProperty_51 rfl (lv_at hl 0 rfl) ?_
      refine sh_g8 hx hb hts hown hK hP dX2_courseProperty_52 ?_
      refine lv_iload_n hx hb dX2_courseProperty_55 rfl (lv_at hl 1 rfl) ?_
      refine sh_r8 hx hb hK hP (tn x) v_5.2 (by omega) (v := σ 8 (tn x)) rfl dX2_courseProperty_56 ?_
      exact fin_i hx hb hr hlk (br_n c_5 (br_n c_12_0 (br_p c_12_1 rfl))) dX2_courseProperty_57
    by_cases c_12_2 : y = 2
    · refine lv_sw_in (k := 2) (tgt := 58) hx hb dX2_courseProperty_12 c_12_2 (by decide) (by decide) rfl (by decide) ?_
      refine lv_aload_n hx hb dX2_courseProperty_58 rfl (lv_at hl 0 rfl) ?_
      refine sh_g9 hx hb hts hown hK hP dX2_courseProperty_59 ?_
      refine lv_iload_n hx hb dX2_courseProperty_62 rfl (lv_at hl 1 rfl) ?_
      refine sh_r9 hx hb hK hP (tn x) v_5.2 (by omega) (v := σ 9 (tn x)) rfl dX2_courseProperty_63 ?_
      exact fin_i hx hb hr hlk (br_n c_5 (br_n c_12_0 (br_n c_12_1 (br_p c_12_2 rfl)))) dX2_courseProperty_64
    by_cases c_12_3 : y = 3
    · refine lv_sw_in (k := 3) (tgt := 65) hx hb dX2_courseProperty_12 c_12_3 (by decide) (by decide) rfl (by decide) ?_
      refine lv_aload_n hx hb dX2_courseProperty_65 rfl (lv_at hl 0 rfl) ?_
      refine lv_iload_n hx hb dX2_courseProperty_66 rfl (lv_at hl 1 rfl) ?_
      refine sh_call (rest := []) hx hb hml hown hts hK hP (c_X2_stockFor l D cI o a σ x (tn x) v_5.2 (by with_reducible assumption) (by first | with_reducible assumption | omega)) (kV_X2_stockFor hts ml_X2_125 ⟨(Nat.le_of_ble_eq_true rfl), (Nat.le_of_ble_eq_true rfl)⟩) rfl hl.1 rfl (Nat.le_of_ble_eq_true rfl) dX2_courseProperty_67 (Nat.zero_le _) (Nat.zero_le _) ?_
      exact fin_i hx hb hr hlk (br_n c_5 (br_n c_12_0 (br_n c_12_1 (br_n c_12_2 (br_p c_12_3 rfl))))) dX2_courseProperty_70
    have tc_12_0 : y.toInt ≠ 0 := ne_toInt c_12_0
    have tc_12_1 : y.toInt ≠ 1 := ne_toInt c_12_1
    have tc_12_2 : y.toInt ≠ 2 := ne_toInt c_12_2
    have tc_12_3 : y.toInt ≠ 3 := ne_toInt c_12_3
    refine lv_tableOut (tgt := 71) hx hb dX2_courseProperty_12 (by omega) (by decide) ?_
    refine lv_bipush (v := (-3)) hx hb dX2_courseProperty_71 (by decide) ?_
    exact fin_i hx hb hr hlk (br_n c_5 (br_n c_12_0 (br_n c_12_1 (br_n c_12_2 (br_n c_12_3 rfl))))) dX2_courseProperty_73
  refine lv_bipush (v := (-2)) hx hb dX2_courseProperty_8 (by decide) ?_
  exact fin_i hx hb hr hlk (br_p c_5 rfl) dX2_courseProperty_10
theorem kV_X2_courseProperty {R : Room} {s : State} {args : Array Value} {own : String} {idx : Nat} {c0 : Cond} (hts : ∀ w ∈ c0 :: W0, w.before args s = true) (hl : Cond.methodLink own idx yX2_courseProperty ∈ W0) (hR : rm_X2_courseProperty.frames + 1 ≤ R.frames ∧ 8 + (3 + 11) + rm_X2_courseProperty.locals ≤ R.locals) : CallW R s args own RX2 idx yX2_courseProperty cX2_courseProperty 3 (some .int) (Cond.code yX2_courseProperty cX2_courseProperty 3 (some .int) :: W0) rm_X2_courseProperty 0 0 2 := cwV 2 hts (gdV hl mi_yX2_courseProperty ms_yX2_courseProperty mini_X2 mc_yX2_courseProperty) rfl rfl rfl (by decide +kernel) hR

/-! X2.copyProperty -/
def f_X2_copyProperty (σ : Nat → Nat → Int32) (x : Int32) (y : Int32) : Int32 := (if (f_X2_hasCopy σ x) = 0 then (-2) else (if (σ 13 (tn x)) = 1 then (if y = 0 then σ 10 (tn x) else (if y = 1 then σ 11 (tn x) else (if y = 2 then σ 12 (tn x) else (if y = 3 then σ 13 (tn x) else (if y = 4 then σ 14 (tn x) else (if y = 5 then σ 15 (tn x) else (if y = 6 then (f_X2_worthOf σ (tn x)) else (if y = 7 then (f_X2_rentCost σ (tn x)) else (if y = 8 then (f_X2_saleCost σ (tn x)) else (if y = 9 then (if (f_X2_isOfUse σ (σ 10 (tn x)) (σ 11 (tn x))) = 0 then 0 else 1) else (if y = 10 then (f_X2_daysLate σ (tn x)) else (-3)))))))))))) else (if y = 0 then σ 10 (tn x) else (if y = 1 then σ 11 (tn x) else (if y = 2 then σ 12 (tn x) else (if y = 3 then σ 13 (tn x) else (if y = 4 then (-1) else (if y = 5 then (-1) else (if y = 6 then (f_X2_worthOf σ (tn x)) else (if y = 7 then (f_X2_rentCost σ (tn x)) else (if y = 8 then (f_X2_saleCost σ (tn x)) else (if y = 9 then (if (f_X2_isOfUse σ (σ 10 (tn x)) (σ 11 (tn x))) = 0 then 0 else 1) else (if y = 10 then 0 else (-3))))))))))))))
abbrev rm_X2_copyProperty : Room := { frames := 4, cells := 0, slots := 0, locals := 91 }
set_option maxRecDepth 100000 in
theorem c_X2_copyProperty (l : Launch) (D : va_G) (cI : ClassId) (o : Nat) (a : Nat → Nat) (σ : Nat → Nat → Int32) (x : Int32) (y : Int32) (hok : okS σ) :
    Met l yX2_copyProperty (Cond.code yX2_copyProperty cX2_copyProperty 4 (some .int) :: W0) rm_X2_copyProperty (va_Pc [.ref o, .int x, .int y] (shP D cI o a σ)) (vp_Si (fun r => r = f_X2_copyProperty σ x y)) 0 0 (fun _ => False) := by
  refine st_gen (cc := cX2_copyProperty) (maxL := 4) (ret := some .int) (own := RX2) (by decide) rfl (Nat.le_of_ble_eq_true rfl) ?_
  intro p e s m below meth c ls C hPre hl
  obtain ⟨hx, hb, hr, hml, hown, hts, hlk⟩ := C
  obtain ⟨hP, hK⟩ := hPre
  have hl : lv_has ls 4 [(0, .ref (o)), (1, .int (x)), (2, .int (y))] := hl
  obtain ⟨hT6, hC6, hN6⟩ := okS_b hok
  refine lv_aload_n hx hb dX2_copyProperty_0 rfl (lv_at hl 0 rfl) ?_
  refine lv_iload_n hx hb dX2_copyProperty_1 rfl (lv_at hl 1 rfl) ?_
  refine sh_call (rest := []) hx hb hml hown hts hK hP (c_X2_hasCopy l D cI o a σ x) (kV_X2_hasCopy hts ml_X2_128 ⟨(Nat.le_of_ble_eq_true rfl), (Nat.le_of_ble_eq_true rfl)⟩) rfl hl.1 rfl (Nat.le_of_ble_eq_true rfl) dX2_copyProperty_2 (Nat.zero_le _) (Nat.zero_le _) ?_
  refine lv_if_ne (tgt := 11) hx hb dX2_copyProperty_5 (by decide) (fun c_5 => ?_) (fun c_5 => ?_)
  · have v_5 := hasCopy_ok (σ := σ) (by with_reducible assumption) c_5
    have vb_5 := v_5.1
    refine lv_aload_n hx hb dX2_copyProperty_11 rfl (lv_at hl 0 rfl) ?_
    refine sh_g13 hx hb hts hown hK hP dX2_copyProperty_12 ?_
    refine lv_iload_n hx hb dX2_copyProperty_15 rfl (lv_at hl 1 rfl) ?_
    refine sh_r13 hx hb hK hP (tn x) v_5.2 (by omega) (v := σ 13 (tn x)) rfl dX2_copyProperty_16 ?_
    refine lv_iconst (v := 1) hx hb dX2_copyProperty_17 (by decide) ?_
    refine lv_icmp_ne (tgt := 25) hx hb dX2_copyProperty_18 (by decide) (fun c_18 => ?_) (fun c_18 => ?_)
    · refine lv_iconst (v := 0) hx hb dX2_copyProperty_25 (by decide) ?_
      refine lv_istore_n (lv' := [(3, .int (0)), (0, .ref (o)), (1, .int (x)), (2, .int (y))]) hx hb dX2_copyProperty_26 rfl hl (by decide) rfl (fun ls hl => ?_)
      refine lv_iload_n hx hb dX2_copyProperty_27 rfl (lv_at hl 3 rfl) ?_
      by_cases c_28_0 : y = 0
      · refine lv_sw_in (k := 0) (tgt := 88) hx hb dX2_copyProperty_28 c_28_0 (by decide) (by decide) rfl (by decide) ?_
        refine lv_aload_n hx hb dX2_copyProperty_88 rfl (lv_at hl 1 rfl) ?_
        refine sh_g10 hx hb hts hown hK hP dX2_copyProperty_89 ?_
        refine lv_iload_n hx hb dX2_copyProperty_92 rfl (lv_at hl 2 rfl) ?_
        refine sh_r10 hx hb hK hP (tn x) v_5.2 (by omega) (v := σ 10 (tn x)) rfl dX2_copyProperty_93 ?_
        exact fin_i hx hb hr hlk (br_n c_5 (br_n c_18 (br_p c_28_0 rfl))) dX2_copyProperty_94
      by_cases c_28_1 : y = 1
      · refine lv_sw_in (k := 1) (tgt := 95) hx hb dX2_copyProperty_28 c_28_1 (by decide) (by decide) rfl (by decide) ?_
        refine lv_aload_n hx hb dX2_copyProperty_95 rfl (lv_at hl 1 rfl) ?_
        refine sh_g11 hx hb hts hown hK hP dX2_copyProperty_96 ?_
        refine lv_iload_n hx hb dX2_copyProperty_99 rfl (lv_at hl 2 rfl) ?_
        refine sh_r11 hx hb hK hP (tn x) v_5.2 (by omega) (v := σ 11 (tn x)) rfl dX2_copyProperty_100 ?_
        exact fin_i hx hb hr hlk (br_n c_5 (br_n c_18 (br_n c_28_0 (br_p c_28_1 rfl)))) dX2_copyProperty_101
      by_cases c_28_2 : y = 2
      · refine lv_sw_in (k := 2) (tgt := 102) hx hb dX2_copyProperty_28 c_28_2 (by decide) (by decide) rfl (by decide) ?_
        refine lv_aload_n hx hb dX2_copyProperty_102 rfl (lv_at hl 1 rfl) ?_
        refine sh_g12 hx hb hts hown hK hP dX2_copyProperty_103 ?_
        refine lv_iload_n hx hb dX2_copyProperty_106 rfl (lv_at hl 2 rfl) ?_
        refine sh_r12 hx hb hK hP (tn x) v_5.2 (by omega) (v := σ 12 (tn x)) rfl dX2_copyProperty_107 ?_
        exact fin_i hx hb hr hlk (br_n c_5 (br_n c_18 (br_n c_28_0 (br_n c_28_1 (br_p c_28_2 rfl))))) dX2_copyProperty_108
      by_cases c_28_3 : y = 3
      · refine lv_sw_in (k := 3) (tgt := 109) hx hb dX2_copyProperty_28 c_28_3 (by decide) (by decide) rfl (by decide) ?_
        refine lv_aload_n hx hb dX2_copyProperty_109 rfl (lv_at hl 1 rfl) ?_
        refine sh_g13 hx hb hts hown hK hP dX2_copyProperty_110 ?_
        refine lv_iload_n hx hb dX2_copyProperty_113 rfl (lv_at hl 2 rfl) ?_
        refine sh_r13 hx hb hK hP (tn x) v_5.2 (by omega) (v := σ 13 (tn x)) rfl dX2_copyProperty_114 ?_
        exact fin_i hx hb hr hlk (br_n c_5 (br_n c_18 (br_n c_28_0 (br_n c_28_1 (br_n c_28_2 (br_p c_28_3 rfl)))))) dX2_copyProperty_115
      by_cases c_28_4 : y = 4
      · refine lv_sw_in (k := 4) (tgt := 116) hx hb dX2_copyProperty_28 c_28_4 (by decide) (by decide) rfl (by decide) ?_
        refine lv_iload_n hx hb dX2_copyProperty_116 rfl (lv_at hl 0 rfl) ?_
        refine lv_if_eq (tgt := 129) hx hb dX2_copyProperty_117 (by decide) (fun _ => ?_) (fun q => absurd rfl q)
        refine lv_iconst (v := (-1)) hx hb dX2_copyProperty_129 (by decide) ?_
        exact fin_i hx hb hr hlk (br_n c_5 (br_n c_18 (br_n c_28_0 (br_n c_28_1 (br_n c_28_2 (br_n c_28_3 (br_p c_28_4 rfl))))))) dX2_copyProperty_130
      by_cases c_28_5 : y = 5
      · refine lv_sw_in (k := 5) (tgt := 131) hx hb dX2_copyProperty_28 c_28_5 (by decide) (by decide) rfl (by decide) ?_
        refine lv_iload_n hx hb dX2_copyProperty_131 rfl (lv_at hl 0 rfl) ?_
        refine lv_if_eq (tgt := 144) hx hb dX2_copyProperty_132 (by decide) (fun _ => ?_) (fun q => absurd rfl q)
        refine lv_iconst (v := (-1)) hx hb dX2_copyProperty_144 (by decide) ?_
        exact fin_i hx hb hr hlk (br_n c_5 (br_n c_18 (br_n c_28_0 (br_n c_28_1 (br_n c_28_2 (br_n c_28_3 (br_n c_28_4 (br_p c_28_5 rfl)))))))) dX2_copyProperty_145
      by_cases c_28_6 : y = 6
      · refine lv_sw_in (k := 6) (tgt := 146) hx hb dX2_copyProperty_28 c_28_6 (by decide) (by decide) rfl (by decide) ?_
        refine lv_aload_n hx hb dX2_copyProperty_146 rfl (lv_at hl 1 rfl) ?_
        refine lv_iload_n hx hb dX2_copyProperty_147 rfl (lv_at hl 2 rfl) ?_
        refine sh_call (rest := []) hx hb hml hown hts hK hP (c_X2_worthOf l D cI o a σ x (tn x) v_5.2 (by with_reducible assumption) (by first | with_reducible assumption | omega)) (kV_X2_worthOf hts ml_X2_131 ⟨(Nat.le_of_ble_eq_true rfl), (Nat.le_of_ble_eq_true rfl)⟩) rfl hl.1 rfl (Nat.le_of_ble_eq_true rfl) dX2_copyProperty_148 (Nat.zero_le _) (Nat.zero_le _) ?_
        exact fin_i hx hb hr hlk (br_n c_5 (br_n c_18 (br_n c_28_0 (br_n c_28_1 (br_n c_28_2 (br_n c_28_3 (br_n c_28_4 (br_n c_28_5 (br_p c_28_6 rfl))))))))) dX2_copyProperty_151
      by_cases c_28_7 : y = 7
      · refine lv_sw_in (k := 7) (tgt := 152) hx hb dX2_copyProperty_28 c_28_7 (by decide) (by decide) rfl (by decide) ?_
        refine lv_aload_n hx hb dX2_copyProperty_152 rfl (lv_at hl 1 rfl) ?_
        refine lv_iload_n hx hb dX2_copyProperty_153 rfl (lv_at hl 2 rfl) ?_
        refine sh_call (rest := []) hx hb hml hown hts hK hP (c_X2_rentCost l D cI o a σ x (tn x) v_5.2 (by with_reducible assumption) (by first | with_reducible assumption | omega)) (kV_X2_rentCost hts ml_X2_134 ⟨(Nat.le_of_ble_eq_true rfl), (Nat.le_of_ble_eq_true rfl)⟩) rfl hl.1 rfl (Nat.le_of_ble_eq_true rfl) dX2_copyProperty_154 (Nat.zero_le _) (Nat.zero_le _) ?_
        exact fin_i hx hb hr hlk (br_n c_5 (br_n c_18 (br_n c_28_0 (br_n c_28_1 (br_n c_28_2 (br_n c_28_3 (br_n c_28_4 (br_n c_28_5 (br_n c_28_6 (br_p c_28_7 rfl)))))))))) dX2_copyProperty_157
      by_cases c_28_8 : y = 8
      · refine lv_sw_in (k := 8) (tgt := 158) hx hb dX2_copyProperty_28 c_28_8 (by decide) (by decide) rfl (by decide) ?_
        refine lv_aload_n hx hb dX2_copyProperty_158 rfl (lv_at hl 1 rfl) ?_
        refine lv_iload_n hx hb dX2_copyProperty_159 rfl (lv_at hl 2 rfl) ?_
        refine sh_call (rest := []) hx hb hml hown hts hK hP (c_X2_saleCost l D cI o a σ x (tn x) v_5.2 (by with_reducible assumption) (by first | with_reducible assumption | omega)) (kV_X2_saleCost hts ml_X2_137 ⟨(Nat.le_of_ble_eq_true rfl), (Nat.le_of_ble_eq_true rfl)⟩) rfl hl.1 rfl (Nat.le_of_ble_eq_true rfl) dX2_copyProperty_160 (Nat.zero_le _) (Nat.zero_le _) ?_
        exact fin_i hx hb hr hlk (br_n c_5 (br_n c_18 (br_n c_28_0 (br_n c_28_1 (br_n c_28_2 (br_n c_28_3 (br_n c_28_4 (br_n c_28_5 (br_n c_28_6 (br_n c_28_7 (br_p c_28_8 rfl))))))))))) dX2_copyProperty_163
      by_cases c_28_9 : y = 9
      · refine lv_sw_in (k := 9) (tgt := 164) hx hb dX2_copyProperty_28 c_28_9 (by decide) (by decide) rfl (by decide) ?_
        refine lv_aload_n hx hb dX2_copyProperty_164 rfl (lv_at hl 1 rfl) ?_
        refine lv_aload_n hx hb dX2_copyProperty_165 rfl (lv_at hl 1 rfl) ?_
        refine sh_g10 hx hb hts hown hK hP dX2_copyProperty_166 ?_
        refine lv_iload_n hx hb dX2_copyProperty_169 rfl (lv_at hl 2 rfl) ?_
        refine sh_r10 hx hb hK hP (tn x) v_5.2 (by omega) (v := σ 10 (tn x)) rfl dX2_copyProperty_170 ?_
        refine lv_aload_n hx hb dX2_copyProperty_171 rfl (lv_at hl 1 rfl) ?_
        refine sh_g11 hx hb hts hown hK hP dX2_copyProperty_172 ?_
        refine lv_iload_n hx hb dX2_copyProperty_175 rfl (lv_at hl 2 rfl) ?_
        refine sh_r11 hx hb hK hP (tn x) v_5.2 (by omega) (v := σ 11 (tn x)) rfl dX2_copyProperty_176 ?_
        refine sh_call (rest := []) hx hb hml hown hts hK hP (c_X2_isOfUse l D cI o a σ (σ 10 (tn x)) (σ 11 (tn x)) (by with_reducible assumption)) (kV_X2_isOfUse hts ml_X2_140 ⟨(Nat.le_of_ble_eq_true rfl), (Nat.le_of_ble_eq_true rfl)⟩) rfl hl.1 rfl (Nat.le_of_ble_eq_true rfl) dX2_copyProperty_177 (Nat.zero_le _) (Nat.zero_le _) ?_
        refine lv_if_eq (tgt := 187) hx hb dX2_copyProperty_180 (by decide) (fun c_180 => ?_) (fun c_180 => ?_)
        · refine lv_iconst (v := 0) hx hb dX2_copyProperty_187 (by decide) ?_
          exact fin_i hx hb hr hlk (br_n c_5 (br_n c_18 (br_n c_28_0 (br_n c_28_1 (br_n c_28_2 (br_n c_28_3 (br_n c_28_4 (br_n c_28_5 (br_n c_28_6 (br_n c_28_7 (br_n c_28_8 (br_p c_28_9 (br_p c_180 rfl))))))))))))) dX2_copyProperty_188
        refine lv_iconst (v := 1) hx hb dX2_copyProperty_183 (by decide) ?_
        refine lv_goto (tgt := 188) hx hb dX2_copyProperty_184 (by decide) ?_
        exact fin_i hx hb hr hlk (br_n c_5 (br_n c_18 (br_n c_28_0 (br_n c_28_1 (br_n c_28_2 (br_n c_28_3 (br_n c_28_4 (br_n c_28_5 (br_n c_28_6 (br_n c_28_7 (br_n c_28_8 (br_p c_28_9 (br_n c_180 rfl))))))))))))) dX2_copyProperty_188
      by_cases c_28_10 : y = 10
      · refine lv_sw_in (k := 10) (tgt := 189) hx hb dX2_copyProperty_28 c_28_10 (by decide) (by decide) rfl (by decide) ?_
        refine lv_iload_n hx hb dX2_copyProperty_189 rfl (lv_at hl 0 rfl) ?_
        refine lv_if_eq (tgt := 201) hx hb dX2_copyProperty_190 (by decide) (fun _ => ?_) (fun q => absurd rfl q)
        refine lv_iconst (v := 0) hx hb dX2_copyProperty_201 (by decide) ?_
        exact fin_i hx hb hr hlk (br_n c_5 (br_n c_18 (br_n c_28_0 (br_n c_28_1 (br_n c_28_2 (br_n c_28_3 (br_n c_28_4 (br_n c_28_5 (br_n c_28_6 (br_n c_28_7 (br_n c_28_8 (br_n c_28_9 (br_p c_28_10 rfl))))))))))))) dX2_copyProperty_202
      have tc_28_0 : y.toInt ≠ 0 := ne_toInt c_28_0
      have tc_28_1 : y.toInt ≠ 1 := ne_toInt c_28_1
      have tc_28_2 : y.toInt ≠ 2 := ne_toInt c_28_2
      have tc_28_3 : y.toInt ≠ 3 := ne_toInt c_28_3
      have tc_28_4 : y.toInt ≠ 4 := ne_toInt c_28_4
      have tc_28_5 : y.toInt ≠ 5 := ne_toInt c_28_5
      have tc_28_6 : y.toInt ≠ 6 := ne_toInt c_28_6
      have tc_28_7 : y.toInt ≠ 7 := ne_toInt c_28_7
      have tc_28_8 : y.toInt ≠ 8 := ne_toInt c_28_8
      have tc_28_9 : y.toInt ≠ 9 := ne_toInt c_28_9
      have tc_28_10 : y.toInt ≠ 10 := ne_toInt c_28_10
      refine lv_tableOut (tgt := 203) hx hb dX2_copyProperty_28 (by omega) (by decide) ?_
      refine lv_bipush (v := (-3)) hx hb dX2_copyProperty_203 (by decide) ?_
      exact fin_i hx hb hr hlk (br_n c_5 (br_n c_18 (br_n c_28_0 (br_n c_28_1 (br_n c_28_2 (br_n c_28_3 (br_n c_28_4 (br_n c_28_5 (br_n c_28_6 (br_n c_28_7 (br_n c_28_8 (br_n c_28_9 (br_n c_28_10 rfl))))))))))))) dX2_copyProperty_205
    refine lv_iconst (v := 1) hx hb dX2_copyProperty_21 (by decide) ?_
    refine lv_goto (tgt := 26) hx hb dX2_copyProperty_22 (by decide) ?_
    refine lv_istore_n (lv' := [(3, .int (1)), (0, .ref (o)), (1, .int (x)), (2, .int (y))]) hx hb dX2_copyProperty_26 rfl hl (by decide) rfl (fun ls hl => ?_)
    refine lv_iload_n hx hb dX2_copyProperty_27 rfl (lv_at hl 3 rfl) ?_
    by_cases c_28_0 : y = 0
    · refine lv_sw_in (k := 0) (tgt := 88) hx hb dX2_copyProperty_28 c_28_0 (by decide) (by decide) rfl (by decide) ?_
      refine lv_aload_n hx hb dX2_copyProperty_88 rfl (lv_at hl 1 rfl) ?_
      refine sh_g10 hx hb hts hown hK hP dX2_copyProperty_89 ?_
      refine lv_iload_n hx hb dX2_copyProperty_92 rfl (lv_at hl 2 rfl) ?_
      refine sh_r10 hx hb hK hP (tn x) v_5.2 (by omega) (v := σ 10 (tn x)) rfl dX2_copyProperty_93 ?_
      exact fin_i hx hb hr hlk (br_n c_5 (br_p c_18 (br_p c_28_0 rfl))) dX2_copyProperty_94
    by_cases c_28_1 : y = 1
    · refine lv_sw_in (k := 1) (tgt := 95) hx hb dX2_copyProperty_28 c_28_1 (by decide) (by decide) rfl (by decide) ?_
      refine lv_aload_n hx hb dX2_copyProperty_95 rfl (lv_at hl 1 rfl) ?_
      refine sh_g11 hx hb hts hown hK hP dX2_copyProperty_96 ?_
      refine lv_iload_n hx hb dX2_copyProperty_99 rfl (lv_at hl 2 rfl) ?_
      refine sh_r11 hx hb hK hP (tn x) v_5.2 (by omega) (v := σ 11 (tn x)) rfl dX2_copyProperty_100 ?_
      exact fin_i hx hb hr hlk (br_n c_5 (br_p c_18 (br_n c_28_0 (br_p c_28_1 rfl)))) dX2_copyProperty_101
    by_cases c_28_2 : y = 2
    · refine lv_sw_in (k := 2) (tgt := 102) hx hb dX2_copyProperty_28 c_28_2 (by decide) (by decide) rfl (by decide) ?_
      refine lv_aload_n hx hb dX2_copyProperty_102 rfl (lv_at hl 1 rfl) ?_
      refine sh_g12 hx hb hts hown hK hP dX2_copyProperty_103 ?_
      refine lv_iload_n hx hb dX2_copyProperty_106 rfl (lv_at hl 2 rfl) ?_
      refine sh_r12 hx hb hK hP (tn x) v_5.2 (by omega) (v := σ 12 (tn x)) rfl dX2_copyProperty_107 ?_
      exact fin_i hx hb hr hlk (br_n c_5 (br_p c_18 (br_n c_28_0 (br_n c_28_1 (br_p c_28_2 rfl))))) dX2_copyProperty_108
    by_cases c_28_3 : y = 3
    · refine lv_sw_in (k := 3) (tgt := 109) hx hb dX2_copyProperty_28 c_28_3 (by decide) (by decide) rfl (by decide) ?_
      refine lv_aload_n hx hb dX2_copyProperty_109 rfl (lv_at hl 1 rfl) ?_
      refine sh_g13 hx hb hts hown hK hP dX2_copyProperty_110 ?_
      refine lv_iload_n hx hb dX2_copyProperty_113 rfl (lv_at hl 2 rfl) ?_
      refine sh_r13 hx hb hK hP (tn x) v_5.2 (by omega) (v := σ 13 (tn x)) rfl dX2_copyProperty_114 ?_
      exact fin_i hx hb hr hlk (br_n c_5 (br_p c_18 (br_n c_28_0 (br_n c_28_1 (br_n c_28_2 (br_p c_28_3 rfl)))))) dX2_copyProperty_115
    by_cases c_28_4 : y = 4
    · refine lv_sw_in (k := 4) (tgt := 116) hx hb dX2_copyProperty_28 c_28_4 (by decide) (by decide) rfl (by decide) ?_
      refine lv_iload_n hx hb dX2_copyProperty_116 rfl (lv_at hl 0 rfl) ?_
      refine lv_if_eq (tgt := 129) hx hb dX2_copyProperty_117 (by decide) (fun q => absurd q (by decide)) (fun _ => ?_)
      refine lv_aload_n hx hb dX2_copyProperty_120 rfl (lv_at hl 1 rfl) ?_
      refine sh_g14 hx hb hts hown hK hP dX2_copyProperty_121 ?_
      refine lv_iload_n hx hb dX2_copyProperty_124 rfl (lv_at hl 2 rfl) ?_
      refine sh_r14 hx hb hK hP (tn x) v_5.2 (by omega) (v := σ 14 (tn x)) rfl dX2_copyProperty_125 ?_
      refine lv_goto (tgt := 130) hx hb dX2_copyProperty_126 (by decide) ?_
      exact fin_i hx hb hr hlk (br_n c_5 (br_p c_18 (br_n c_28_0 (br_n c_28_1 (br_n c_28_2 (br_n c_28_3 (br_p c_28_4 rfl))))))) dX2_copyProperty_130
    by_cases c_28_5 : y = 5
    · refine lv_sw_in (k := 5) (tgt := 131) hx hb dX2_copyProperty_28 c_28_5 (by decide) (by decide) rfl (by decide) ?_
      refine lv_iload_n hx hb dX2_copyProperty_131 rfl (lv_at hl 0 rfl) ?_
      refine lv_if_eq (tgt := 144) hx hb dX2_copyProperty_132 (by decide) (fun q => absurd q (by decide)) (fun _ => ?_)
      refine lv_aload_n hx hb dX2_copyProperty_135 rfl (lv_at hl 1 rfl) ?_
      refine sh_g15 hx hb hts hown hK hP dX2_copyProperty_136 ?_
      refine lv_iload_n hx hb dX2_copyProperty_139 rfl (lv_at hl 2 rfl) ?_
      refine sh_r15 hx hb hK hP (tn x) v_5.2 (by omega) (v := σ 15 (tn x)) rfl dX2_copyProperty_140 ?_
      refine lv_goto (tgt := 145) hx hb dX2_copyProperty_141 (by decide) ?_
      exact fin_i hx hb hr hlk (br_n c_5 (br_p c_18 (br_n c_28_0 (br_n c_28_1 (br_n c_28_2 (br_n c_28_3 (br_n c_28_4 (br_p c_28_5 rfl)))))))) dX2_copyProperty_145
    by_cases c_28_6 : y = 6
    · refine lv_sw_in (k := 6) (tgt := 146) hx hb dX2_copyProperty_28 c_28_6 (by decide) (by decide) rfl (by decide) ?_
      refine lv_aload_n hx hb dX2_copyProperty_146 rfl (lv_at hl 1 rfl) ?_
      refine lv_iload_n hx hb dX2_copyProperty_147 rfl (lv_at hl 2 rfl) ?_
      refine sh_call (rest := []) hx hb hml hown hts hK hP (c_X2_worthOf l D cI o a σ x (tn x) v_5.2 (by with_reducible assumption) (by first | with_reducible assumption | omega)) (kV_X2_worthOf hts ml_X2_131 ⟨(Nat.le_of_ble_eq_true rfl), (Nat.le_of_ble_eq_true rfl)⟩) rfl hl.1 rfl (Nat.le_of_ble_eq_true rfl) dX2_copyProperty_148 (Nat.zero_le _) (Nat.zero_le _) ?_
      exact fin_i hx hb hr hlk (br_n c_5 (br_p c_18 (br_n c_28_0 (br_n c_28_1 (br_n c_28_2 (br_n c_28_3 (br_n c_28_4 (br_n c_28_5 (br_p c_28_6 rfl))))))))) dX2_copyProperty_151
    by_cases c_28_7 : y = 7
    · refine lv_sw_in (k := 7) (tgt := 152) hx hb dX2_copyProperty_28 c_28_7 (by decide) (by decide) rfl (by decide) ?_
      refine lv_aload_n hx hb dX2_copyProperty_152 rfl (lv_at hl 1 rfl) ?_
      refine lv_iload_n hx hb dX2_copyProperty_153 rfl (lv_at hl 2 rfl) ?_
      refine sh_call (rest := []) hx hb hml hown hts hK hP (c_X2_rentCost l D cI o a σ x (tn x) v_5.2 (by with_reducible assumption) (by first | with_reducible assumption | omega)) (kV_X2_rentCost hts ml_X2_134 ⟨(Nat.le_of_ble_eq_true rfl), (Nat.le_of_ble_eq_true rfl)⟩) rfl hl.1 rfl (Nat.le_of_ble_eq_true rfl) dX2_copyProperty_154 (Nat.zero_le _) (Nat.zero_le _) ?_
      exact fin_i hx hb hr hlk (br_n c_5 (br_p c_18 (br_n c_28_0 (br_n c_28_1 (br_n c_28_2 (br_n c_28_3 (br_n c_28_4 (br_n c_28_5 (br_n c_28_6 (br_p c_28_7 rfl)))))))))) dX2_copyProperty_157
    by_cases c_28_8 : y = 8
    · refine lv_sw_in (k := 8) (tgt := 158) hx hb dX2_copyProperty_28 c_28_8 (by decide) (by decide) rfl (by decide) ?_
      refine lv_aload_n hx hb dX2_copyProperty_158 rfl (lv_at hl 1 rfl) ?_
      refine lv_iload_n hx hb dX2_copyProperty_159 rfl (lv_at hl 2 rfl) ?_
      refine sh_call (rest := []) hx hb hml hown hts hK hP (c_X2_saleCost l D cI o a σ x (tn x) v_5.2 (by with_reducible assumption) (by first | with_reducible assumption | omega)) (kV_X2_saleCost hts ml_X2_137 ⟨(Nat.le_of_ble_eq_true rfl), (Nat.le_of_ble_eq_true rfl)⟩) rfl hl.1 rfl (Nat.le_of_ble_eq_true rfl) dX2_copyProperty_160 (Nat.zero_le _) (Nat.zero_le _) ?_
      exact fin_i hx hb hr hlk (br_n c_5 (br_p c_18 (br_n c_28_0 (br_n c_28_1 (br_n c_28_2 (br_n c_28_3 (br_n c_28_4 (br_n c_28_5 (br_n c_28_6 (br_n c_28_7 (br_p c_28_8 rfl))))))))))) dX2_copyProperty_163
    by_cases c_28_9 : y = 9
    · refine lv_sw_in (k := 9) (tgt := 164) hx hb dX2_copyProperty_28 c_28_9 (by decide) (by decide) rfl (by decide) ?_
      refine lv_aload_n hx hb dX2_copyProperty_164 rfl (lv_at hl 1 rfl) ?_
      refine lv_aload_n hx hb dX2_copyProperty_165 rfl (lv_at hl 1 rfl) ?_
      refine sh_g10 hx hb hts hown hK hP dX2_copyProperty_166 ?_
      refine lv_iload_n hx hb dX2_copyProperty_169 rfl (lv_at hl 2 rfl) ?_
      refine sh_r10 hx hb hK hP (tn x) v_5.2 (by omega) (v := σ 10 (tn x)) rfl dX2_copyProperty_170 ?_
      refine lv_aload_n hx hb dX2_copyProperty_171 rfl (lv_at hl 1 rfl) ?_
      refine sh_g11 hx hb hts hown hK hP dX2_copyProperty_172 ?_
      refine lv_iload_n hx hb dX2_copyProperty_175 rfl (lv_at hl 2 rfl) ?_
      refine sh_r11 hx hb hK hP (tn x) v_5.2 (by omega) (v := σ 11 (tn x)) rfl dX2_copyProperty_176 ?_
      refine sh_call (rest := []) hx hb hml hown hts hK hP (c_X2_isOfUse l D cI o a σ (σ 10 (tn x)) (σ 11 (tn x)) (by with_reducible assumption)) (kV_X2_isOfUse hts ml_X2_140 ⟨(Nat.le_of_ble_eq_true rfl), (Nat.le_of_ble_eq_true rfl)⟩) rfl hl.1 rfl (Nat.le_of_ble_eq_true rfl) dX2_copyProperty_177 (Nat.zero_le _) (Nat.zero_le _) ?_
      refine lv_if_eq (tgt := 187) hx hb dX2_copyProperty_180 (by decide) (fun c_180 => ?_) (fun c_180 => ?_)
      · refine lv_iconst (v := 0) hx hb dX2_copyProperty_187 (by decide) ?_
        exact fin_i hx hb hr hlk (br_n c_5 (br_p c_18 (br_n c_28_0 (br_n c_28_1 (br_n c_28_2 (br_n c_28_3 (br_n c_28_4 (br_n c_28_5 (br_n c_28_6 (br_n c_28_7 (br_n c_28_8 (br_p c_28_9 (br_p c_180 rfl))))))))))))) dX2_copyProperty_188
      refine lv_iconst (v := 1) hx hb dX2_copyProperty_183 (by decide) ?_
      refine lv_goto (tgt := 188) hx hb dX2_copyProperty_184 (by decide) ?_
      exact fin_i hx hb hr hlk (br_n c_5 (br_p c_18 (br_n c_28_0 (br_n c_28_1 (br_n c_28_2 (br_n c_28_3 (br_n c_28_4 (br_n c_28_5 (br_n c_28_6 (br_n c_28_7 (br_n c_28_8 (br_p c_28_9 (br_n c_180 rfl))))))))))))) dX2_copyProperty_188
    by_cases c_28_10 : y = 10
    · refine lv_sw_in (k := 10) (tgt := 189) hx hb dX2_copyProperty_28 c_28_10 (by decide) (by decide) rfl (by decide) ?_
      refine lv_iload_n hx hb dX2_copyProperty_189 rfl (lv_at hl 0 rfl) ?_
      refine lv_if_eq (tgt := 201) hx hb dX2_copyProperty_190 (by decide) (fun q => absurd q (by decide)) (fun _ => ?_)
      refine lv_aload_n hx hb dX2_copyProperty_193 rfl (lv_at hl 1 rfl) ?_
      refine lv_iload_n hx hb dX2_copyProperty_194 rfl (lv_at hl 2 rfl) ?_
      refine sh_call (rest := []) hx hb hml hown hts hK hP (c_X2_daysLate l D cI o a σ x (tn x) v_5.2 (by with_reducible assumption) (by first | with_reducible assumption | omega)) (kV_X2_daysLate hts ml_X2_144 ⟨(Nat.le_of_ble_eq_true rfl), (Nat.le_of_ble_eq_true rfl)⟩) rfl hl.1 rfl (Nat.le_of_ble_eq_true rfl) dX2_copyProperty_195 (Nat.zero_le _) (Nat.zero_le _) ?_
      refine lv_goto (tgt := 202) hx hb dX2_copyProperty_198 (by decide) ?_
      exact fin_i hx hb hr hlk (br_n c_5 (br_p c_18 (br_n c_28_0 (br_n c_28_1 (br_n c_28_2 (br_n c_28_3 (br_n c_28_4 (br_n c_28_5 (br_n c_28_6 (br_n c_28_7 (br_n c_28_8 (br_n c_28_9 (br_p c_28_10 rfl))))))))))))) dX2_copyProperty_202
    have tc_28_0 : y.toInt ≠ 0 := ne_toInt c_28_0
    have tc_28_1 : y.toInt ≠ 1 := ne_toInt c_28_1
    have tc_28_2 : y.toInt ≠ 2 := ne_toInt c_28_2
    have tc_28_3 : y.toInt ≠ 3 := ne_toInt c_28_3
    have tc_28_4 : y.toInt ≠ 4 := ne_toInt c_28_4
    have tc_28_5 : y.toInt ≠ 5 := ne_toInt c_28_5
    have tc_28_6 : y.toInt ≠ 6 := ne_toInt c_28_6
    have tc_28_7 : y.toInt ≠ 7 := ne_toInt c_28_7
    have tc_28_8 : y.toInt ≠ 8 := ne_toInt c_28_8
    have tc_28_9 : y.toInt ≠ 9 := ne_toInt c_28_9
    have tc_28_10 : y.toInt ≠ 10 := ne_toInt c_28_10
    refine lv_tableOut (tgt := 203) hx hb dX2_copyProperty_28 (by omega) (by decide) ?_
    refine lv_bipush (v := (-3)) hx hb dX2_copyProperty_203 (by decide) ?_
    exact fin_i hx hb hr hlk (br_n c_5 (br_p c_18 (br_n c_28_0 (br_n c_28_1 (br_n c_28_2 (br_n c_28_3 (br_n c_28_4 (br_n c_28_5 (br_n c_28_6 (br_n c_28_7 (br_n c_28_8 (br_n c_28_9 (br_n c_28_10 rfl))))))))))))) dX2_copyProperty_205
  refine lv_bipush (v := (-2)) hx hb dX2_copyProperty_8 (by decide) ?_
  exact fin_i hx hb hr hlk (br_p c_5 rfl) dX2_copyProperty_10
theorem kV_X2_copyProperty {R : Room} {s : State} {args : Array Value} {own : String} {idx : Nat} {c0 : Cond} (hts : ∀ w ∈ c0 :: W0, w.before args s = true) (hl : Cond.methodLink own idx yX2_copyProperty ∈ W0) (hR : rm_X2_copyProperty.frames + 1 ≤ R.frames ∧ 8 + (4 + 11) + rm_X2_copyProperty.locals ≤ R.locals) : CallW R s args own RX2 idx yX2_copyProperty cX2_copyProperty 4 (some .int) (Cond.code yX2_copyProperty cX2_copyProperty 4 (some .int) :: W0) rm_X2_copyProperty 0 0 2 := cwV 2 hts (gdV hl mi_yX2_copyProperty ms_yX2_copyProperty mini_X2 mc_yX2_copyProperty) rfl rfl rfl (by decide +kernel) hR

/-! X2.sumOf -/
def f_X2_sumOf (σ : Nat → Nat → Int32) (x : Int32) : Int32 := (if (f_X2_isBetween x 0 7) = 0 then (-3) else (if 7 ≤ tn x then ((100000000 + (((((σ 16 0) + (σ 16 1)) + (σ 16 2)) + (σ 16 3)) + (σ 16 4))) - (σ 16 5)) - (σ 16 6) else σ 16 (tn x)))
abbrev rm_X2_sumOf : Room := { frames := 1, cells := 0, slots := 0, locals := 22 }
set_option maxRecDepth 100000 in
theorem c_X2_sumOf (l : Launch) (D : va_G) (cI : ClassId) (o : Nat) (a : Nat → Nat) (σ : Nat → Nat → Int32) (x : Int32) :
    Met l yX2_sumOf (Cond.code yX2_sumOf cX2_sumOf 3 (some .int) :: W0) rm_X2_sumOf (va_Pc [.ref o, .int x] (shP D cI o a σ)) (vp_Si (fun r => r = f_X2_sumOf σ x)) 0 0 (fun _ => False) := by
  refine st_gen (cc := cX2_sumOf) (maxL := 3) (ret := some .int) (own := RX2) (by decide) rfl (Nat.le_of_ble_eq_true rfl) ?_
  intro p e s m below meth c ls C hPre hl
  obtain ⟨hx, hb, hr, hml, hown, hts, hlk⟩ := C
  obtain ⟨hP, hK⟩ := hPre
  have hl : lv_has ls 3 [(0, .ref (o)), (1, .int (x))] := hl
  refine lv_iload_n hx hb dX2_sumOf_0 rfl (lv_at hl 1 rfl) ?_
  refine lv_iconst (v := 0) hx hb dX2_sumOf_1 (by decide) ?_
  refine lv_bipush (v := 7) hx hb dX2_sumOf_2 (by decide) ?_
  refine cl_S (rest := []) hx hb hml hown hts (c_X2_isBetween l x 0 7) (kS_X2_isBetween hts ml_X2_93 ⟨(Nat.le_of_ble_eq_true rfl), (Nat.le_of_ble_eq_true rfl)⟩) rfl hl.1 rfl (Nat.le_of_ble_eq_true rfl) dX2_sumOf_4 (Nat.zero_le _) (Nat.zero_le _) ?_
  refine lv_if_ne (tgt := 13) hx hb dX2_sumOf_7 (by decide) (fun c_7 => ?_) (fun c_7 => ?_)
  · have v_7 := btwN 7 c_7 (by decide) rfl (by decide)
    have vb_7 := v_7.1
    refine lv_iload_n hx hb dX2_sumOf_13 rfl (lv_at hl 1 rfl) ?_
    refine lv_bipush (v := 7) hx hb dX2_sumOf_14 (by decide) ?_
    refine lv_icmp_geN (tn x) (7) hx hb v_7.2 rfl (by omega) (by omega) (tgt := 26) dX2_sumOf_16 (by decide) (fun c_16 => ?_) (fun c_16 => ?_)
    · refine lv_aload_n hx hb dX2_sumOf_26 rfl (lv_at hl 0 rfl) ?_
      refine sh_g16 hx hb hts hown hK hP dX2_sumOf_27 ?_
      refine lv_iconst (v := 0) hx hb dX2_sumOf_30 (by decide) ?_
      refine sh_r16 hx hb hK hP (0) rfl (by omega) (v := σ 16 0) rfl dX2_sumOf_31 ?_
      refine lv_aload_n hx hb dX2_sumOf_32 rfl (lv_at hl 0 rfl) ?_
      refine sh_g16 hx hb hts hown hK hP dX2_sumOf_33 ?_
      refine lv_iconst (v := 1) hx hb dX2_sumOf_36 (by decide) ?_
      refine sh_r16 hx hb hK hP (1) rfl (by omega) (v := σ 16 1) rfl dX2_sumOf_37 ?_
      refine lv_iadd hx hb dX2_sumOf_38 ?_
      refine lv_aload_n hx hb dX2_sumOf_39 rfl (lv_at hl 0 rfl) ?_
      refine sh_g16 hx hb hts hown hK hP dX2_sumOf_40 ?_
      refine lv_iconst (v := 2) hx hb dX2_sumOf_43 (by decide) ?_
      refine sh_r16 hx hb hK hP (2) rfl (by omega) (v := σ 16 2) rfl dX2_sumOf_44 ?_
      refine lv_iadd hx hb dX2_sumOf_45 ?_
      refine lv_aload_n hx hb dX2_sumOf_46 rfl (lv_at hl 0 rfl) ?_
      refine sh_g16 hx hb hts hown hK hP dX2_sumOf_47 ?_
      refine lv_iconst (v := 3) hx hb dX2_sumOf_50 (by decide) ?_
      refine sh_r16 hx hb hK hP (3) rfl (by omega) (v := σ 16 3) rfl dX2_sumOf_51 ?_
      refine lv_iadd hx hb dX2_sumOf_52 ?_
      refine lv_aload_n hx hb dX2_sumOf_53 rfl (lv_at hl 0 rfl) ?_
      refine sh_g16 hx hb hts hown hK hP dX2_sumOf_54 ?_
      refine lv_iconst (v := 4) hx hb dX2_sumOf_57 (by decide) ?_
      refine sh_r16 hx hb hK hP (4) rfl (by omega) (v := σ 16 4) rfl dX2_sumOf_58 ?_
      refine lv_iadd hx hb dX2_sumOf_59 ?_
      refine lv_istore_n (lv' := [(2, .int (((((σ 16 0) + (σ 16 1)) + (σ 16 2)) + (σ 16 3)) + (σ 16 4))), (0, .ref (o)), (1, .int (x))]) hx hb dX2_sumOf_60 rfl hl (by decide) rfl (fun ls hl => ?_)
      refine lv_ldc (v := 100000000) hx hb hown (hts _ (List.mem_cons_of_mem _ mk_X2_147)) dX2_sumOf_61 ?_
      refine lv_iload_n hx hb dX2_sumOf_63 rfl (lv_at hl 0 rfl) ?_
      refine lv_iadd hx hb dX2_sumOf_64 ?_
      refine lv_aload_n hx hb dX2_sumOf_65 rfl (lv_at hl 1 rfl) ?_
      refine sh_g16 hx hb hts hown hK hP dX2_sumOf_66 ?_
      refine lv_iconst (v := 5) hx hb dX2_sumOf_69 (by decide) ?_
      refine sh_r16 hx hb hK hP (5) rfl (by omega) (v := σ 16 5) rfl dX2_sumOf_70 ?_
      refine lv_isub hx hb dX2_sumOf_71 ?_
      refine lv_aload_n hx hb dX2_sumOf_72 rfl (lv_at hl 1 rfl) ?_
      refine sh_g16 hx hb hts hown hK hP dX2_sumOf_73 ?_
      refine lv_bipush (v := 6) hx hb dX2_sumOf_76 (by decide) ?_
      refine sh_r16 hx hb hK hP (6) rfl (by omega) (v := σ 16 6) rfl dX2_sumOf_78 ?_
      refine lv_isub hx hb dX2_sumOf_79 ?_
      exact fin_i hx hb hr hlk (br_n c_7 (br_p c_16 rfl)) dX2_sumOf_80
    refine lv_aload_n hx hb dX2_sumOf_19 rfl (lv_at hl 0 rfl) ?_
    refine sh_g16 hx hb hts hown hK hP dX2_sumOf_20 ?_
    refine lv_iload_n hx hb dX2_sumOf_23 rfl (lv_at hl 1 rfl) ?_
    refine sh_r16 hx hb hK hP (tn x) v_7.2 (by omega) (v := σ 16 (tn x)) rfl dX2_sumOf_24 ?_
    exact fin_i hx hb hr hlk (br_n c_7 (br_n c_16 rfl)) dX2_sumOf_25
  refine lv_bipush (v := (-3)) hx hb dX2_sumOf_10 (by decide) ?_
  exact fin_i hx hb hr hlk (br_p c_7 rfl) dX2_sumOf_12
theorem kV_X2_sumOf {R : Room} {s : State} {args : Array Value} {own : String} {idx : Nat} {c0 : Cond} (hts : ∀ w ∈ c0 :: W0, w.before args s = true) (hl : Cond.methodLink own idx yX2_sumOf ∈ W0) (hR : rm_X2_sumOf.frames + 1 ≤ R.frames ∧ 8 + (3 + 11) + rm_X2_sumOf.locals ≤ R.locals) : CallW R s args own RX2 idx yX2_sumOf cX2_sumOf 3 (some .int) (Cond.code yX2_sumOf cX2_sumOf 3 (some .int) :: W0) rm_X2_sumOf 0 0 1 := cwV 1 hts (gdV hl mi_yX2_sumOf ms_yX2_sumOf mini_X2 mc_yX2_sumOf) rfl rfl rfl (by decide +kernel) hR

/-! X2.customerNumber -/
def f_X2_customerNumber (σ : Nat → Nat → Int32) (x : Int32) (y : Int32) : Int32 := (if (f_X2_hasCustomer x) = 0 then (-2) else (if y = 0 then (f_X2_rentedBy σ x) else (if y = 1 then (f_X2_lateBy σ x) else (if y = 2 then σ 17 (tn x) else (-3)))))
abbrev rm_X2_customerNumber : Room := { frames := 3, cells := 0, slots := 0, locals := 65 }
set_option maxRecDepth 100000 in
theorem c_X2_customerNumber (l : Launch) (D : va_G) (cI : ClassId) (o : Nat) (a : Nat → Nat) (σ : Nat → Nat → Int32) (x : Int32) (y : Int32) (hok : okS σ) :
    Met l yX2_customerNumber (Cond.code yX2_customerNumber cX2_customerNumber 3 (some .int) :: W0) rm_X2_customerNumber (va_Pc [.ref o, .int x, .int y] (shP D cI o a σ)) (vp_Si (fun r => r = f_X2_customerNumber σ x y)) 0 0 (fun _ => False) := by
  refine st_gen (cc := cX2_customerNumber) (maxL := 3) (ret := some .int) (own := RX2) (by decide) rfl (Nat.le_of_ble_eq_true rfl) ?_
  intro p e s m below meth c ls C hPre hl
  obtain ⟨hx, hb, hr, hml, hown, hts, hlk⟩ := C
  obtain ⟨hP, hK⟩ := hPre
  have hl : lv_has ls 3 [(0, .ref (o)), (1, .int (x)), (2, .int (y))] := hl
  obtain ⟨hT6, hC6, hN6⟩ := okS_b hok
  refine lv_iload_n hx hb dX2_customerNumber_0 rfl (lv_at hl 1 rfl) ?_
  refine cl_S (rest := []) hx hb hml hown hts (c_X2_hasCustomer l x) (kS_X2_hasCustomer hts ml_X2_148 ⟨(Nat.le_of_ble_eq_true rfl), (Nat.le_of_ble_eq_true rfl)⟩) rfl hl.1 rfl (Nat.le_of_ble_eq_true rfl) dX2_customerNumber_1 (Nat.zero_le _) (Nat.zero_le _) ?_
  refine lv_if_ne (tgt := 10) hx hb dX2_customerNumber_4 (by decide) (fun c_4 => ?_) (fun c_4 => ?_)
  · have v_4 := hasCustomer_ok c_4
    have vb_4 := v_4.1
    refine lv_iload_n hx hb dX2_customerNumber_10 rfl (lv_at hl 2 rfl) ?_
    by_cases c_11_0 : y = 0
    · refine lv_sw_in (k := 0) (tgt := 36) hx hb dX2_customerNumber_11 c_11_0 (by decide) (by decide) rfl (by decide) ?_
      refine lv_aload_n hx hb dX2_customerNumber_36 rfl (lv_at hl 0 rfl) ?_
      refine lv_iload_n hx hb dX2_customerNumber_37 rfl (lv_at hl 1 rfl) ?_
      refine sh_call (rest := []) hx hb hml hown hts hK hP (c_X2_rentedBy l D cI o a σ x (by with_reducible assumption)) (kV_X2_rentedBy hts ml_X2_151 ⟨(Nat.le_of_ble_eq_true rfl), (Nat.le_of_ble_eq_true rfl)⟩) rfl hl.1 rfl (Nat.le_of_ble_eq_true rfl) dX2_customerNumber_38 (Nat.zero_le _) (Nat.zero_le _) ?_
      exact fin_i hx hb hr hlk (br_n c_4 (br_p c_11_0 rfl)) dX2_customerNumber_41
    by_cases c_11_1 : y = 1
    · refine lv_sw_in (k := 1) (tgt := 42) hx hb dX2_customerNumber_11 c_11_1 (by decide) (by decide) rfl (by decide) ?_
      refine lv_aload_n hx hb dX2_customerNumber_42 rfl (lv_at hl 0 rfl) ?_
      refine lv_iload_n hx hb dX2_customerNumber_43 rfl (lv_at hl 1 rfl) ?_
      refine sh_call (rest := []) hx hb hml hown hts hK hP (c_X2_lateBy l D cI o a σ x (by with_reducible assumption)) (kV_X2_lateBy hts ml_X2_154 ⟨(Nat.le_of_ble_eq_true rfl), (Nat.le_of_ble_eq_true rfl)⟩) rfl hl.1 rfl (Nat.le_of_ble_eq_true rfl) dX2_customerNumber_44 (Nat.zero_le _) (Nat.zero_le _) ?_
      exact fin_i hx hb hr hlk (br_n c_4 (br_n c_11_0 (br_p c_11_1 rfl))) dX2_customerNumber_47
    by_cases c_11_2 : y = 2
    · refine lv_sw_in (k := 2) (tgt := 48) hx hb dX2_customerNumber_11 c_11_2 (by decide) (by decide) rfl (by decide) ?_
      refine lv_aload_n hx hb dX2_customerNumber_48 rfl (lv_at hl 0 rfl) ?_
      refine sh_g17 hx hb hts hown hK hP dX2_customerNumber_49 ?_
      refine lv_iload_n hx hb dX2_customerNumber_52 rfl (lv_at hl 1 rfl) ?_
      refine sh_r17 hx hb hK hP (tn x) v_4.2 (by omega) (v := σ 17 (tn x)) rfl dX2_customerNumber_53 ?_
      exact fin_i hx hb hr hlk (br_n c_4 (br_n c_11_0 (br_n c_11_1 (br_p c_11_2 rfl)))) dX2_customerNumber_54
    have tc_11_0 : y.toInt ≠ 0 := ne_toInt c_11_0
    have tc_11_1 : y.toInt ≠ 1 := ne_toInt c_11_1
    have tc_11_2 : y.toInt ≠ 2 := ne_toInt c_11_2
    refine lv_tableOut (tgt := 55) hx hb dX2_customerNumber_11 (by omega) (by decide) ?_
    refine lv_bipush (v := (-3)) hx hb dX2_customerNumber_55 (by decide) ?_
    exact fin_i hx hb hr hlk (br_n c_4 (br_n c_11_0 (br_n c_11_1 (br_n c_11_2 rfl)))) dX2_customerNumber_57
  refine lv_bipush (v := (-2)) hx hb dX2_customerNumber_7 (by decide) ?_
  exact fin_i hx hb hr hlk (br_p c_4 rfl) dX2_customerNumber_9
theorem kV_X2_customerNumber {R : Room} {s : State} {args : Array Value} {own : String} {idx : Nat} {c0 : Cond} (hts : ∀ w ∈ c0 :: W0, w.before args s = true) (hl : Cond.methodLink own idx yX2_customerNumber ∈ W0) (hR : rm_X2_customerNumber.frames + 1 ≤ R.frames ∧ 8 + (3 + 11) + rm_X2_customerNumber.locals ≤ R.locals) : CallW R s args own RX2 idx yX2_customerNumber cX2_customerNumber 3 (some .int) (Cond.code yX2_customerNumber cX2_customerNumber 3 (some .int) :: W0) rm_X2_customerNumber 0 0 2 := cwV 2 hts (gdV hl mi_yX2_customerNumber ms_yX2_customerNumber mini_X2 mc_yX2_customerNumber) rfl rfl rfl (by decide +kernel) hR

/-! X2.offerFor -/
def f_X2_offerFor (σ : Nat → Nat → Int32) (x : Int32) (y : Int32) (z : Int32) : Int32 := (if (f_X2_hasTitle σ x) = 0 then (-2) else (if (f_X2_isEdition y) = 0 then (-3) else (if (f_X2_isGrade z) = 0 then (-3) else (if (f_X2_isOfUse σ x y) = 0 then 0 else (if (f_X2_supplyOf σ x) < (f_X2_demandOf σ x) then ((f_X2_worthBy σ (tn x) (σ 6 (tn x)) y z) * 40) / 100 else (((f_X2_worthBy σ (tn x) (σ 6 (tn x)) y z) * 40) / 100) / 2)))))
abbrev rm_X2_offerFor : Room := { frames := 3, cells := 0, slots := 0, locals := 70 }
set_option maxRecDepth 100000 in
theorem c_X2_offerFor (l : Launch) (D : va_G) (cI : ClassId) (o : Nat) (a : Nat → Nat) (σ : Nat → Nat → Int32) (x : Int32) (y : Int32) (z : Int32) (hok : okS σ) :
    Met l yX2_offerFor (Cond.code yX2_offerFor cX2_offerFor 5 (some .int) :: W0) rm_X2_offerFor (va_Pc [.ref o, .int x, .int y, .int z] (shP D cI o a σ)) (vp_Si (fun r => r = f_X2_offerFor σ x y z)) 0 0 (fun _ => False) := by
  refine st_gen (cc := cX2_offerFor) (maxL := 5) (ret := some .int) (own := RX2) (by decide) rfl (Nat.le_of_ble_eq_true rfl) ?_
  intro p e s m below meth c ls C hPre hl
  obtain ⟨hx, hb, hr, hml, hown, hts, hlk⟩ := C
  obtain ⟨hP, hK⟩ := hPre
  have hl : lv_has ls 5 [(0, .ref (o)), (1, .int (x)), (2, .int (y)), (3, .int (z))] := hl
  obtain ⟨hT6, hC6, hN6⟩ := okS_b hok
  refine lv_aload_n hx hb dX2_offerFor_0 rfl (lv_at hl 0 rfl) ?_
  refine lv_iload_n hx hb dX2_offerFor_1 rfl (lv_at hl 1 rfl) ?_
  refine sh_call (rest := []) hx hb hml hown hts hK hP (c_X2_hasTitle l D cI o a σ x) (kV_X2_hasTitle hts ml_X2_90 ⟨(Nat.le_of_ble_eq_true rfl), (Nat.le_of_ble_eq_true rfl)⟩) rfl hl.1 rfl (Nat.le_of_ble_eq_true rfl) dX2_offerFor_2 (Nat.zero_le _) (Nat.zero_le _) ?_
  refine lv_if_ne (tgt := 11) hx hb dX2_offerFor_5 (by decide) (fun c_5 => ?_) (fun c_5 => ?_)
  · have v_5 := hasTitle_ok (σ := σ) (by with_reducible assumption) c_5
    have vb_5 := v_5.1
    refine lv_iload_n hx hb dX2_offerFor_11 rfl (lv_at hl 2 rfl) ?_
    refine cl_S (rest := []) hx hb hml hown hts (c_X2_isEdition l y) (kS_X2_isEdition hts ml_X2_87 ⟨(Nat.le_of_ble_eq_true rfl), (Nat.le_of_ble_eq_true rfl)⟩) rfl hl.1 rfl (Nat.le_of_ble_eq_true rfl) dX2_offerFor_12 (Nat.zero_le _) (Nat.zero_le _) ?_
    refine lv_if_eq (tgt := 25) hx hb dX2_offerFor_15 (by decide) (fun c_15 => ?_) (fun c_15 => ?_)
    · refine lv_bipush (v := (-3)) hx hb dX2_offerFor_25 (by decide) ?_
      exact fin_i hx hb hr hlk (br_n c_5 (br_p c_15 rfl)) dX2_offerFor_27
    refine lv_iload_n hx hb dX2_offerFor_18 rfl (lv_at hl 3 rfl) ?_
    refine cl_S (rest := []) hx hb hml hown hts (c_X2_isGrade l z) (kS_X2_isGrade hts ml_X2_161 ⟨(Nat.le_of_ble_eq_true rfl), (Nat.le_of_ble_eq_true rfl)⟩) rfl hl.1 rfl (Nat.le_of_ble_eq_true rfl) dX2_offerFor_19 (Nat.zero_le _) (Nat.zero_le _) ?_
    refine lv_if_ne (tgt := 28) hx hb dX2_offerFor_22 (by decide) (fun c_22 => ?_) (fun c_22 => ?_)
    · refine lv_aload_n hx hb dX2_offerFor_28 rfl (lv_at hl 0 rfl) ?_
      refine lv_iload_n hx hb dX2_offerFor_29 rfl (lv_at hl 1 rfl) ?_
      refine lv_iload_n hx hb dX2_offerFor_30 rfl (lv_at hl 2 rfl) ?_
      refine sh_call (rest := []) hx hb hml hown hts hK hP (c_X2_isOfUse l D cI o a σ x y (by with_reducible assumption)) (kV_X2_isOfUse hts ml_X2_140 ⟨(Nat.le_of_ble_eq_true rfl), (Nat.le_of_ble_eq_true rfl)⟩) rfl hl.1 rfl (Nat.le_of_ble_eq_true rfl) dX2_offerFor_31 (Nat.zero_le _) (Nat.zero_le _) ?_
      refine lv_if_ne (tgt := 39) hx hb dX2_offerFor_34 (by decide) (fun c_34 => ?_) (fun c_34 => ?_)
      · refine lv_aload_n hx hb dX2_offerFor_39 rfl (lv_at hl 0 rfl) ?_
        refine lv_iload_n hx hb dX2_offerFor_40 rfl (lv_at hl 1 rfl) ?_
        refine lv_aload_n hx hb dX2_offerFor_41 rfl (lv_at hl 0 rfl) ?_
        refine sh_g6 hx hb hts hown hK hP dX2_offerFor_42 ?_
        refine lv_iload_n hx hb dX2_offerFor_45 rfl (lv_at hl 1 rfl) ?_
        refine sh_r6 hx hb hK hP (tn x) v_5.2 (by omega) (v := σ 6 (tn x)) rfl dX2_offerFor_46 ?_
        refine lv_iload_n hx hb dX2_offerFor_47 rfl (lv_at hl 2 rfl) ?_
        refine lv_iload_n hx hb dX2_offerFor_48 rfl (lv_at hl 3 rfl) ?_
        refine sh_call (rest := []) hx hb hml hown hts hK hP (c_X2_worthBy l D cI o a σ x (tn x) v_5.2 (σ 6 (tn x)) y z (by first | with_reducible assumption | omega)) (kV_X2_worthBy hts ml_X2_164 ⟨(Nat.le_of_ble_eq_true rfl), (Nat.le_of_ble_eq_true rfl)⟩) rfl hl.1 rfl (Nat.le_of_ble_eq_true rfl) dX2_offerFor_49 (Nat.zero_le _) (Nat.zero_le _) ?_
        refine lv_bipush (v := 40) hx hb dX2_offerFor_52 (by decide) ?_
        refine lv_imul hx hb dX2_offerFor_54 ?_
        refine lv_bipush (v := 100) hx hb dX2_offerFor_55 (by decide) ?_
        refine lv_idiv hx hb dX2_offerFor_57 (by decide) ?_
        refine lv_istore (lv' := [(4, .int (((f_X2_worthBy σ (tn x) (σ 6 (tn x)) y z) * 40) / 100)), (0, .ref (o)), (1, .int (x)), (2, .int (y)), (3, .int (z))]) hx hb dX2_offerFor_58 hl (by decide) rfl (fun ls hl => ?_)
        refine lv_aload_n hx hb dX2_offerFor_60 rfl (lv_at hl 1 rfl) ?_
        refine lv_iload_n hx hb dX2_offerFor_61 rfl (lv_at hl 2 rfl) ?_
        refine sh_call (rest := []) hx hb hml hown hts hK hP (c_X2_supplyOf l D cI o a σ x (by with_reducible assumption)) (kV_X2_supplyOf hts ml_X2_113 ⟨(Nat.le_of_ble_eq_true rfl), (Nat.le_of_ble_eq_true rfl)⟩) rfl hl.1 rfl (Nat.le_of_ble_eq_true rfl) dX2_offerFor_62 (Nat.zero_le _) (Nat.zero_le _) ?_
        refine lv_aload_n hx hb dX2_offerFor_65 rfl (lv_at hl 1 rfl) ?_
        refine lv_iload_n hx hb dX2_offerFor_66 rfl (lv_at hl 2 rfl) ?_
        refine sh_call (rest := [.int ((f_X2_supplyOf σ x))]) hx hb hml hown hts hK hP (c_X2_demandOf l D cI o a σ x (by with_reducible assumption)) (kV_X2_demandOf hts ml_X2_110 ⟨(Nat.le_of_ble_eq_true rfl), (Nat.le_of_ble_eq_true rfl)⟩) rfl hl.1 rfl (Nat.le_of_ble_eq_true rfl) dX2_offerFor_67 (Nat.zero_le _) (Nat.zero_le _) ?_
        refine lv_icmp_lt (tgt := 80) hx hb dX2_offerFor_70 (by decide) (fun c_70 => ?_) (fun c_70 => ?_)
        · refine lv_iload hx hb dX2_offerFor_80 (lv_at hl 0 rfl) ?_
          exact fin_i hx hb hr hlk (br_n c_5 (br_n c_15 (br_n c_22 (br_n c_34 (br_p c_70 rfl))))) dX2_offerFor_82
        refine lv_iload hx hb dX2_offerFor_73 (lv_at hl 0 rfl) ?_
        refine lv_iconst (v := 2) hx hb dX2_offerFor_75 (by decide) ?_
        refine lv_idiv hx hb dX2_offerFor_76 (by decide) ?_
        refine lv_goto (tgt := 82) hx hb dX2_offerFor_77 (by decide) ?_
        exact fin_i hx hb hr hlk (br_n c_5 (br_n c_15 (br_n c_22 (br_n c_34 (br_n c_70 rfl))))) dX2_offerFor_82
      refine lv_iconst (v := 0) hx hb dX2_offerFor_37 (by decide) ?_
      exact fin_i hx hb hr hlk (br_n c_5 (br_n c_15 (br_n c_22 (br_p c_34 rfl)))) dX2_offerFor_38
    refine lv_bipush (v := (-3)) hx hb dX2_offerFor_25 (by decide) ?_
    exact fin_i hx hb hr hlk (br_n c_5 (br_n c_15 (br_p c_22 rfl))) dX2_offerFor_27
  refine lv_bipush (v := (-2)) hx hb dX2_offerFor_8 (by decide) ?_
  exact fin_i hx hb hr hlk (br_p c_5 rfl) dX2_offerFor_10
theorem kV_X2_offerFor {R : Room} {s : State} {args : Array Value} {own : String} {idx : Nat} {c0 : Cond} (hts : ∀ w ∈ c0 :: W0, w.before args s = true) (hl : Cond.methodLink own idx yX2_offerFor ∈ W0) (hR : rm_X2_offerFor.frames + 1 ≤ R.frames ∧ 8 + (5 + 11) + rm_X2_offerFor.locals ≤ R.locals) : CallW R s args own RX2 idx yX2_offerFor cX2_offerFor 5 (some .int) (Cond.code yX2_offerFor cX2_offerFor 5 (some .int) :: W0) rm_X2_offerFor 0 0 3 := cwV 3 hts (gdV hl mi_yX2_offerFor ms_yX2_offerFor mini_X2 mc_yX2_offerFor) rfl rfl rfl (by decide +kernel) hR

/-! X2.stockOfEdition -/
def g_X2_stockOfEdition_5 (σ : Nat → Nat → Int32) (x : Int32) (y : Int32) : Nat → (Nat) → (Int32) → Int32
  | 0, k, x3 => x3
  | fu + 1, k, x3 => (if nN σ ≤ k then x3 else (if (σ 10 k) = x then (if (σ 11 k) = y then (if (σ 13 k) = 0 then g_X2_stockOfEdition_5 σ x y fu (k + 1) (x3 + 1) else g_X2_stockOfEdition_5 σ x y fu (k + 1) x3) else g_X2_stockOfEdition_5 σ x y fu (k + 1) x3) else g_X2_stockOfEdition_5 σ x y fu (k + 1) x3))
def f_X2_stockOfEdition (σ : Nat → Nat → Int32) (x : Int32) (y : Int32) : Int32 := (g_X2_stockOfEdition_5 σ x y (nN σ + 1) 0 0)
abbrev rm_X2_stockOfEdition : Room := { frames := 0, cells := 0, slots := 0, locals := 0 }
set_option maxRecDepth 100000 in
theorem c_X2_stockOfEdition (l : Launch) (D : va_G) (cI : ClassId) (o : Nat) (a : Nat → Nat) (σ : Nat → Nat → Int32) (x : Int32) (y : Int32) (hok : okS σ) :
    Met l yX2_stockOfEdition (Cond.code yX2_stockOfEdition cX2_stockOfEdition 5 (some .int) :: W0) rm_X2_stockOfEdition (va_Pc [.ref o, .int x, .int y] (shP D cI o a σ)) (vp_Si (fun r => r = f_X2_stockOfEdition σ x y)) 0 0 (fun _ => False) := by
  refine st_gen (cc := cX2_stockOfEdition) (maxL := 5) (ret := some .int) (own := RX2) (by decide) rfl (Nat.le_of_ble_eq_true rfl) ?_
  intro p e s m below meth c ls C hPre hl
  obtain ⟨hx, hb, hr, hml, hown, hts, hlk⟩ := C
  obtain ⟨hP, hK⟩ := hPre
  have hl : lv_has ls 5 [(0, .ref (o)), (1, .int (x)), (2, .int (y))] := hl
  obtain ⟨hT6, hC6, hN6⟩ := okS_b hok
  refine lv_iconst (v := 0) hx hb dX2_stockOfEdition_0 (by decide) ?_
  refine lv_istore_n (lv' := [(3, .int (0)), (0, .ref (o)), (1, .int (x)), (2, .int (y))]) hx hb dX2_stockOfEdition_1 rfl hl (by decide) rfl (fun ls hl => ?_)
  refine lv_iconst (v := 0) hx hb dX2_stockOfEdition_2 (by decide) ?_
  refine lv_istore (lv' := [(4, .int (0)), (3, .int (0)), (0, .ref (o)), (1, .int (x)), (2, .int (y))]) hx hb dX2_stockOfEdition_3 hl (by decide) rfl (fun ls hl => ?_)
  have K_55 : ∀ ls, lv_has ls 5 [(0, .ref (o)), (1, .int (x)), (2, .int (y)), (3, .int ((g_X2_stockOfEdition_5 σ x y (nN σ + 1) 0 0)))] → W p l e rm_X2_stockOfEdition s m (([.ref (o), .int (x), .int (y)] : List Value).toArray) below meth c s.heap [] 0 0 (MQ below (vp_Si (fun r => r = f_X2_stockOfEdition σ x y)) ([.ref (o), .int (x), .int (y)] : List Value).toArray s 0 0 (fun _ => False)) (F0 m 55 ls []) := by
    intro ls hl
    refine lv_iload_n hx hb dX2_stockOfEdition_55 rfl (lv_at hl 3 rfl) ?_
    exact fin_i hx hb hr hlk rfl dX2_stockOfEdition_56
  have L_5 : ∀ (fu : Nat) (k : Nat) (x3 : Int32), nN σ - k < fu → k ≤ nN σ → g_X2_stockOfEdition_5 σ x y fu k x3 = g_X2_stockOfEdition_5 σ x y (nN σ + 1) 0 0 → ∀ ls, lv_has ls 5 [(0, .ref (o)), (1, .int (x)), (2, .int (y)), (4, .int (nI k)), (3, .int (x3))] → W p l e rm_X2_stockOfEdition s m (([.ref (o), .int (x), .int (y)] : List Value).toArray) below meth c s.heap [] 0 0 (MQ below (vp_Si (fun r => r = f_X2_stockOfEdition σ x y)) ([.ref (o), .int (x), .int (y)] : List Value).toArray s 0 0 (fun _ => False)) (F0 m 5 ls []) := by
    intro fu
    induction fu with
    | zero => intro k x3 hm; exact absurd hm (Nat.not_lt_zero _)
    | succ fu ih =>
      intro k x3 hm hkN hg_5 ls hl
      refine lv_iload hx hb dX2_stockOfEdition_5 (lv_at hl 3 rfl) ?_
      refine lv_aload_n hx hb dX2_stockOfEdition_7 rfl (lv_at hl 0 rfl) ?_
      refine sh_g3 hx hb hts hown hK hP (v := σ 3 0) rfl dX2_stockOfEdition_8 ?_
      refine lv_icmp_geN (k) (nN σ) hx hb rfl (okS_3 (σ := σ) (by with_reducible assumption)) (by omega) (by omega) (tgt := 55) dX2_stockOfEdition_11 (by decide) (fun c_11 => ?_) (fun c_11 => ?_)
      · have ex : x3 = g_X2_stockOfEdition_5 σ x y (nN σ + 1) 0 0 := ((br_p c_11 rfl) : x3 = g_X2_stockOfEdition_5 σ x y (fu + 1) k x3).trans hg_5
        exact K_55 ls (by rw [← ex]; exact lv_sub hl [0, 1, 2, 4] rfl)
      refine lv_aload_n hx hb dX2_stockOfEdition_14 rfl (lv_at hl 0 rfl) ?_
      refine sh_g10 hx hb hts hown hK hP dX2_stockOfEdition_15 ?_
      refine lv_iload hx hb dX2_stockOfEdition_18 (lv_at hl 3 rfl) ?_
      refine sh_r10 hx hb hK hP (k) rfl (by omega) (v := σ 10 k) rfl dX2_stockOfEdition_20 ?_
      refine lv_iload_n hx hb dX2_stockOfEdition_21 rfl (lv_at hl 1 rfl) ?_
      refine lv_icmp_ne (tgt := 49) hx hb dX2_stockOfEdition_22 (by decide) (fun c_22 => ?_) (fun c_22 => ?_)
      · refine lv_iinc (v := nI (k + 1)) (lv' := [(4, .int (nI (k + 1))), (0, .ref (o)), (1, .int (x)), (2, .int (y)), (3, .int (x3))]) hx hb dX2_stockOfEdition_49 hl (k := 3) rfl (nI_c1 _) (by decide) rfl (fun ls hl => ?_)
        refine lv_goto (tgt := 5) hx hb dX2_stockOfEdition_52 (by decide) ?_
        exact ih (k + 1) x3 (by omega) (by omega) (((br_n c_11 (br_n c_22 rfl)) : g_X2_stockOfEdition_5 σ x y fu (k + 1) x3 = g_X2_stockOfEdition_5 σ x y (fu + 1) k x3).trans hg_5) ls (lv_sub hl [1, 2, 3, 0, 4] rfl)
      refine lv_aload_n hx hb dX2_stockOfEdition_25 rfl (lv_at hl 0 rfl) ?_
      refine sh_g11 hx hb hts hown hK hP dX2_stockOfEdition_26 ?_
      refine lv_iload hx hb dX2_stockOfEdition_29 (lv_at hl 3 rfl) ?_
      refine sh_r11 hx hb hK hP (k) rfl (by omega) (v := σ 11 k) rfl dX2_stockOfEdition_31 ?_
      refine lv_iload_n hx hb dX2_stockOfEdition_32 rfl (lv_at hl 2 rfl) ?_
      refine lv_icmp_ne (tgt := 49) hx hb dX2_stockOfEdition_33 (by decide) (fun c_33 => ?_) (fun c_33 => ?_)
      · refine lv_iinc (v := nI (k + 1)) (lv' := [(4, .int (nI (k + 1))), (0, .ref (o)), (1, .int (x)), (2, .int (y)), (3, .int (x3))]) hx hb dX2_stockOfEdition_49 hl (k := 3) rfl (nI_c1 _) (by decide) rfl (fun ls hl => ?_)
        refine lv_goto (tgt := 5) hx hb dX2_stockOfEdition_52 (by decide) ?_
        exact ih (k + 1) x3 (by omega) (by omega) (((br_n c_11 (br_p c_22 (br_n c_33 rfl))) : g_X2_stockOfEdition_5 σ x y fu (k + 1) x3 = g_X2_stockOfEdition_5 σ x y (fu + 1) k x3).trans hg_5) ls (lv_sub hl [1, 2, 3, 0, 4] rfl)
      refine lv_aload_n hx hb dX2_stockOfEdition_36 rfl (lv_at hl 0 rfl) ?_
      refine sh_g13 hx hb hts hown hK hP dX2_stockOfEdition_37 ?_
      refine lv_iload hx hb dX2_stockOfEdition_40 (lv_at hl 3 rfl) ?_
      refine sh_r13 hx hb hK hP (k) rfl (by omega) (v := σ 13 k) rfl dX2_stockOfEdition_42 ?_
      refine lv_if_ne (tgt := 49) hx hb dX2_stockOfEdition_43 (by decide) (fun c_43 => ?_) (fun c_43 => ?_)
      · refine lv_iinc (v := nI (k + 1)) (lv' := [(4, .int (nI (k + 1))), (0, .ref (o)), (1, .int (x)), (2, .int (y)), (3, .int (x3))]) hx hb dX2_stockOfEdition_49 hl (k := 3) rfl (nI_c1 _) (by decide) rfl (fun ls hl => ?_)
        refine lv_goto (tgt := 5) hx hb dX2_stockOfEdition_52 (by decide) ?_
        exact ih (k + 1) x3 (by omega) (by omega) (((br_n c_11 (br_p c_22 (br_p c_33 (br_n c_43 rfl)))) : g_X2_stockOfEdition_5 σ x y fu (k + 1) x3 = g_X2_stockOfEdition_5 σ x y (fu + 1) k x3).trans hg_5) ls (lv_sub hl [1, 2, 3, 0, 4] rfl)
      refine lv_iinc (v := x3 + 1) (lv' := [(3, .int (x3 + 1)), (0, .ref (o)), (1, .int (x)), (2, .int (y)), (4, .int (nI k))]) hx hb dX2_stockOfEdition_46 hl (k := 4) rfl rfl (by decide) rfl (fun ls hl => ?_)
      refine lv_iinc (v := nI (k + 1)) (lv' := [(4, .int (nI (k + 1))), (3, .int (x3 + 1)), (0, .ref (o)), (1, .int (x)), (2, .int (y))]) hx hb dX2_stockOfEdition_49 hl (k := 4) rfl (nI_c1 _) (by decide) rfl (fun ls hl => ?_)
      refine lv_goto (tgt := 5) hx hb dX2_stockOfEdition_52 (by decide) ?_
      exact ih (k + 1) (x3 + 1) (by omega) (by omega) (((br_n c_11 (br_p c_22 (br_p c_33 (br_p c_43 rfl)))) : g_X2_stockOfEdition_5 σ x y fu (k + 1) (x3 + 1) = g_X2_stockOfEdition_5 σ x y (fu + 1) k x3).trans hg_5) ls (lv_sub hl [2, 3, 4, 0, 1] rfl)
  exact L_5 (nN σ + 1) 0 0 (by omega) (by omega) rfl ls (lv_sub hl [2, 3, 4, 0, 1] rfl)
theorem kV_X2_stockOfEdition {R : Room} {s : State} {args : Array Value} {own : String} {idx : Nat} {c0 : Cond} (hts : ∀ w ∈ c0 :: W0, w.before args s = true) (hl : Cond.methodLink own idx yX2_stockOfEdition ∈ W0) (hR : rm_X2_stockOfEdition.frames + 1 ≤ R.frames ∧ 8 + (5 + 11) + rm_X2_stockOfEdition.locals ≤ R.locals) : CallW R s args own RX2 idx yX2_stockOfEdition cX2_stockOfEdition 5 (some .int) (Cond.code yX2_stockOfEdition cX2_stockOfEdition 5 (some .int) :: W0) rm_X2_stockOfEdition 0 0 2 := cwV 2 hts (gdV hl mi_yX2_stockOfEdition ms_yX2_stockOfEdition mini_X2 mc_yX2_stockOfEdition) rfl rfl rfl (by decide +kernel) hR

/-! X2.studentsFrom -/
def g_X2_studentsFrom_5 (σ : Nat → Nat → Int32) (x : Int32) (y : Int32) : Nat → (Nat) → (Int32) → Int32
  | 0, k, x3 => x3
  | fu + 1, k, x3 => (if nC σ ≤ k then x3 else (if (σ 7 k) = x then (if (σ 8 k) = y then g_X2_studentsFrom_5 σ x y fu (k + 1) (x3 + (σ 9 k)) else g_X2_studentsFrom_5 σ x y fu (k + 1) x3) else g_X2_studentsFrom_5 σ x y fu (k + 1) x3))
def f_X2_studentsFrom (σ : Nat → Nat → Int32) (x : Int32) (y : Int32) : Int32 := (g_X2_studentsFrom_5 σ x y (nC σ + 1) 0 0)
abbrev rm_X2_studentsFrom : Room := { frames := 0, cells := 0, slots := 0, locals := 0 }
set_option maxRecDepth 100000 in
theorem c_X2_studentsFrom (l : Launch) (D : va_G) (cI : ClassId) (o : Nat) (a : Nat → Nat) (σ : Nat → Nat → Int32) (x : Int32) (y : Int32) (hok : okS σ) :
    Met l yX2_studentsFrom (Cond.code yX2_studentsFrom cX2_studentsFrom 5 (some .int) :: W0) rm_X2_studentsFrom (va_Pc [.ref o, .int x, .int y] (shP D cI o a σ)) (vp_Si (fun r => r = f_X2_studentsFrom σ x y)) 0 0 (fun _ => False) := by
  refine st_gen (cc := cX2_studentsFrom) (maxL := 5) (ret := some .int) (own := RX2) (by decide) rfl (Nat.le_of_ble_eq_true rfl) ?_
  intro p e s m below meth c ls C hPre hl
  obtain ⟨hx, hb, hr, hml, hown, hts, hlk⟩ := C
  obtain ⟨hP, hK⟩ := hPre
  have hl : lv_has ls 5 [(0, .ref (o)), (1, .int (x)), (2, .int (y))] := hl
  obtain ⟨hT6, hC6, hN6⟩ := okS_b hok
  refine lv_iconst (v := 0) hx hb dX2_studentsFrom_0 (by decide) ?_
  refine lv_istore_n (lv' := [(3, .int (0)), (0, .ref (o)), (1, .int (x)), (2, .int (y))]) hx hb dX2_studentsFrom_1 rfl hl (by decide) rfl (fun ls hl => ?_)
  refine lv_iconst (v := 0) hx hb dX2_studentsFrom_2 (by decide) ?_
  refine lv_istore (lv' := [(4, .int (0)), (3, .int (0)), (0, .ref (o)), (1, .int (x)), (2, .int (y))]) hx hb dX2_studentsFrom_3 hl (by decide) rfl (fun ls hl => ?_)
  have K_52 : ∀ ls, lv_has ls 5 [(0, .ref (o)), (1, .int (x)), (2, .int (y)), (3, .int ((g_X2_studentsFrom_5 σ x y (nC σ + 1) 0 0)))] → W p l e rm_X2_studentsFrom s m (([.ref (o), .int (x), .int (y)] : List Value).toArray) below meth c s.heap [] 0 0 (MQ below (vp_Si (fun r => r = f_X2_studentsFrom σ x y)) ([.ref (o), .int (x), .int (y)] : List Value).toArray s 0 0 (fun _ => False)) (F0 m 52 ls []) := by
    intro ls hl
    refine lv_iload_n hx hb dX2_studentsFrom_52 rfl (lv_at hl 3 rfl) ?_
    exact fin_i hx hb hr hlk rfl dX2_studentsFrom_53
  have L_5 : ∀ (fu : Nat) (k : Nat) (x3 : Int32), nC σ - k < fu → k ≤ nC σ → g_X2_studentsFrom_5 σ x y fu k x3 = g_X2_studentsFrom_5 σ x y (nC σ + 1) 0 0 → ∀ ls, lv_has ls 5 [(0, .ref (o)), (1, .int (x)), (2, .int (y)), (4, .int (nI k)), (3, .int (x3))] → W p l e rm_X2_studentsFrom s m (([.ref (o), .int (x), .int (y)] : List Value).toArray) below meth c s.heap [] 0 0 (MQ below (vp_Si (fun r => r = f_X2_studentsFrom σ x y)) ([.ref (o), .int (x), .int (y)] : List Value).toArray s 0 0 (fun _ => False)) (F0 m 5 ls []) := by
    intro fu
    induction fu with
    | zero => intro k x3 hm; exact absurd hm (Nat.not_lt_zero _)
    | succ fu ih =>
      intro k x3 hm hkN hg_5 ls hl
      refine lv_iload hx hb dX2_studentsFrom_5 (lv_at hl 3 rfl) ?_
      refine lv_aload_n hx hb dX2_studentsFrom_7 rfl (lv_at hl 0 rfl) ?_
      refine sh_g2 hx hb hts hown hK hP (v := σ 2 0) rfl dX2_studentsFrom_8 ?_
      refine lv_icmp_geN (k) (nC σ) hx hb rfl (okS_2 (σ := σ) (by with_reducible assumption)) (by omega) (by omega) (tgt := 52) dX2_studentsFrom_11 (by decide) (fun c_11 => ?_) (fun c_11 => ?_)
      · have ex : x3 = g_X2_studentsFrom_5 σ x y (nC σ + 1) 0 0 := ((br_p c_11 rfl) : x3 = g_X2_studentsFrom_5 σ x y (fu + 1) k x3).trans hg_5
        exact K_52 ls (by rw [← ex]; exact lv_sub hl [0, 1, 2, 4] rfl)
      refine lv_aload_n hx hb dX2_studentsFrom_14 rfl (lv_at hl 0 rfl) ?_
      refine sh_g7 hx hb hts hown hK hP dX2_studentsFrom_15 ?_
      refine lv_iload hx hb dX2_studentsFrom_18 (lv_at hl 3 rfl) ?_
      refine sh_r7 hx hb hK hP (k) rfl (by omega) (v := σ 7 k) rfl dX2_studentsFrom_20 ?_
      refine lv_iload_n hx hb dX2_studentsFrom_21 rfl (lv_at hl 1 rfl) ?_
      refine lv_icmp_ne (tgt := 46) hx hb dX2_studentsFrom_22 (by decide) (fun c_22 => ?_) (fun c_22 => ?_)
      · refine lv_iinc (v := nI (k + 1)) (lv' := [(4, .int (nI (k + 1))), (0, .ref (o)), (1, .int (x)), (2, .int (y)), (3, .int (x3))]) hx hb dX2_studentsFrom_46 hl (k := 3) rfl (nI_c1 _) (by decide) rfl (fun ls hl => ?_)
        refine lv_goto (tgt := 5) hx hb dX2_studentsFrom_49 (by decide) ?_
        exact ih (k + 1) x3 (by omega) (by omega) (((br_n c_11 (br_n c_22 rfl)) : g_X2_studentsFrom_5 σ x y fu (k + 1) x3 = g_X2_studentsFrom_5 σ x y (fu + 1) k x3).trans hg_5) ls (lv_sub hl [1, 2, 3, 0, 4] rfl)
      refine lv_aload_n hx hb dX2_studentsFrom_25 rfl (lv_at hl 0 rfl) ?_
      refine sh_g8 hx hb hts hown hK hP dX2_studentsFrom_26 ?_
      refine lv_iload hx hb dX2_studentsFrom_29 (lv_at hl 3 rfl) ?_
      refine sh_r8 hx hb hK hP (k) rfl (by omega) (v := σ 8 k) rfl dX2_studentsFrom_31 ?_
      refine lv_iload_n hx hb dX2_studentsFrom_32 rfl (lv_at hl 2 rfl) ?_
      refine lv_icmp_ne (tgt := 46) hx hb dX2_studentsFrom_33 (by decide) (fun c_33 => ?_) (fun c_33 => ?_)
      · refine lv_iinc (v := nI (k + 1)) (lv' := [(4, .int (nI (k + 1))), (0, .ref (o)), (1, .int (x)), (2, .int (y)), (3, .int (x3))]) hx hb dX2_studentsFrom_46 hl (k := 3) rfl (nI_c1 _) (by decide) rfl (fun ls hl => ?_)
        refine lv_goto (tgt := 5) hx hb dX2_studentsFrom_49 (by decide) ?_
        exact ih (k + 1) x3 (by omega) (by omega) (((br_n c_11 (br_p c_22 (br_n c_33 rfl))) : g_X2_studentsFrom_5 σ x y fu (k + 1) x3 = g_X2_studentsFrom_5 σ x y (fu + 1) k x3).trans hg_5) ls (lv_sub hl [1, 2, 3, 0, 4] rfl)
      refine lv_iload_n hx hb dX2_studentsFrom_36 rfl (lv_at hl 4 rfl) ?_
      refine lv_aload_n hx hb dX2_studentsFrom_37 rfl (lv_at hl 0 rfl) ?_
      refine sh_g9 hx hb hts hown hK hP dX2_studentsFrom_38 ?_
      refine lv_iload hx hb dX2_studentsFrom_41 (lv_at hl 3 rfl) ?_
      refine sh_r9 hx hb hK hP (k) rfl (by omega) (v := σ 9 k) rfl dX2_studentsFrom_43 ?_
      refine lv_iadd hx hb dX2_studentsFrom_44 ?_
      refine lv_istore_n (lv' := [(3, .int (x3 + (σ 9 k))), (0, .ref (o)), (1, .int (x)), (2, .int (y)), (4, .int (nI k))]) hx hb dX2_studentsFrom_45 rfl hl (by decide) rfl (fun ls hl => ?_)
      refine lv_iinc (v := nI (k + 1)) (lv' := [(4, .int (nI (k + 1))), (3, .int (x3 + (σ 9 k))), (0, .ref (o)), (1, .int (x)), (2, .int (y))]) hx hb dX2_studentsFrom_46 hl (k := 4) rfl (nI_c1 _) (by decide) rfl (fun ls hl => ?_)
      refine lv_goto (tgt := 5) hx hb dX2_studentsFrom_49 (by decide) ?_
      exact ih (k + 1) (x3 + (σ 9 k)) (by omega) (by omega) (((br_n c_11 (br_p c_22 (br_p c_33 rfl))) : g_X2_studentsFrom_5 σ x y fu (k + 1) (x3 + (σ 9 k)) = g_X2_studentsFrom_5 σ x y (fu + 1) k x3).trans hg_5) ls (lv_sub hl [2, 3, 4, 0, 1] rfl)
  exact L_5 (nC σ + 1) 0 0 (by omega) (by omega) rfl ls (lv_sub hl [2, 3, 4, 0, 1] rfl)
theorem kV_X2_studentsFrom {R : Room} {s : State} {args : Array Value} {own : String} {idx : Nat} {c0 : Cond} (hts : ∀ w ∈ c0 :: W0, w.before args s = true) (hl : Cond.methodLink own idx yX2_studentsFrom ∈ W0) (hR : rm_X2_studentsFrom.frames + 1 ≤ R.frames ∧ 8 + (5 + 11) + rm_X2_studentsFrom.locals ≤ R.locals) : CallW R s args own RX2 idx yX2_studentsFrom cX2_studentsFrom 5 (some .int) (Cond.code yX2_studentsFrom cX2_studentsFrom 5 (some .int) :: W0) rm_X2_studentsFrom 0 0 2 := cwV 2 hts (gdV hl mi_yX2_studentsFrom ms_yX2_studentsFrom mini_X2 mc_yX2_studentsFrom) rfl rfl rfl (by decide +kernel) hR

/-! X2.servedWith -/
def g_X2_servedWith_8 (σ : Nat → Nat → Int32) (x : Int32) : Nat → (Nat) → (Int32) → (Int32) → Int32
  | 0, w, x3, x2 => x2
  | fu + 1, w, x3, x2 => (if w < 1 then x2 else g_X2_servedWith_8 σ x fu (w - 1) ((x3 + (f_X2_stockOfEdition σ x (nI w))) - (if (f_X2_studentsFrom σ x (nI w)) < (x3 + (f_X2_stockOfEdition σ x (nI w))) then (f_X2_studentsFrom σ x (nI w)) else (x3 + (f_X2_stockOfEdition σ x (nI w))))) (x2 + (if (f_X2_studentsFrom σ x (nI w)) < (x3 + (f_X2_stockOfEdition σ x (nI w))) then (f_X2_studentsFrom σ x (nI w)) else (x3 + (f_X2_stockOfEdition σ x (nI w))))))
def f_X2_servedWith (σ : Nat → Nat → Int32) (x : Int32) : Int32 := (g_X2_servedWith_8 σ x 31 30 0 0)
abbrev rm_X2_servedWith : Room := { frames := 1, cells := 0, slots := 0, locals := 24 }
set_option maxRecDepth 100000 in
theorem c_X2_servedWith (l : Launch) (D : va_G) (cI : ClassId) (o : Nat) (a : Nat → Nat) (σ : Nat → Nat → Int32) (x : Int32) (hok : okS σ) :
    Met l yX2_servedWith (Cond.code yX2_servedWith cX2_servedWith 6 (some .int) :: W0) rm_X2_servedWith (va_Pc [.ref o, .int x] (shP D cI o a σ)) (vp_Si (fun r => r = f_X2_servedWith σ x)) 0 0 (fun _ => False) := by
  refine st_gen (cc := cX2_servedWith) (maxL := 6) (ret := some .int) (own := RX2) (by decide) rfl (Nat.le_of_ble_eq_true rfl) ?_
  intro p e s m below meth c ls C hPre hl
  obtain ⟨hx, hb, hr, hml, hown, hts, hlk⟩ := C
  obtain ⟨hP, hK⟩ := hPre
  have hl : lv_has ls 6 [(0, .ref (o)), (1, .int (x))] := hl
  obtain ⟨hT6, hC6, hN6⟩ := okS_b hok
  refine lv_iconst (v := 0) hx hb dX2_servedWith_0 (by decide) ?_
  refine lv_istore_n (lv' := [(2, .int (0)), (0, .ref (o)), (1, .int (x))]) hx hb dX2_servedWith_1 rfl hl (by decide) rfl (fun ls hl => ?_)
  refine lv_iconst (v := 0) hx hb dX2_servedWith_2 (by decide) ?_
  refine lv_istore_n (lv' := [(3, .int (0)), (2, .int (0)), (0, .ref (o)), (1, .int (x))]) hx hb dX2_servedWith_3 rfl hl (by decide) rfl (fun ls hl => ?_)
  refine lv_bipush (v := 30) hx hb dX2_servedWith_4 (by decide) ?_
  refine lv_istore (lv' := [(4, .int (30)), (3, .int (0)), (2, .int (0)), (0, .ref (o)), (1, .int (x))]) hx hb dX2_servedWith_6 hl (by decide) rfl (fun ls hl => ?_)
  have K_53 : ∀ ls, lv_has ls 6 [(0, .ref (o)), (1, .int (x)), (2, .int ((g_X2_servedWith_8 σ x 31 30 0 0)))] → W p l e rm_X2_servedWith s m (([.ref (o), .int (x)] : List Value).toArray) below meth c s.heap [] 0 0 (MQ below (vp_Si (fun r => r = f_X2_servedWith σ x)) ([.ref (o), .int (x)] : List Value).toArray s 0 0 (fun _ => False)) (F0 m 53 ls []) := by
    intro ls hl
    refine lv_iload_n hx hb dX2_servedWith_53 rfl (lv_at hl 2 rfl) ?_
    exact fin_i hx hb hr hlk rfl dX2_servedWith_54
  have L_8 : ∀ (fu : Nat) (w : Nat) (x3 : Int32) (x2 : Int32), w < fu → w ≤ 30 → g_X2_servedWith_8 σ x fu w x3 x2 = g_X2_servedWith_8 σ x 31 30 0 0 → ∀ ls, lv_has ls 6 [(0, .ref (o)), (1, .int (x)), (4, .int (nI w)), (3, .int (x3)), (2, .int (x2))] → W p l e rm_X2_servedWith s m (([.ref (o), .int (x)] : List Value).toArray) below meth c s.heap [] 0 0 (MQ below (vp_Si (fun r => r = f_X2_servedWith σ x)) ([.ref (o), .int (x)] : List Value).toArray s 0 0 (fun _ => False)) (F0 m 8 ls []) := by
    intro fu
    induction fu with
    | zero => intro w x3 x2 hm; exact absurd hm (Nat.not_lt_zero _)
    | succ fu ih =>
      intro w x3 x2 hm hw hg_8 ls hl
      refine lv_iload hx hb dX2_servedWith_8 (lv_at hl 2 rfl) ?_
      refine lv_iconst (v := 1) hx hb dX2_servedWith_10 (by decide) ?_
      refine lv_icmp_ltN (w) (1) hx hb rfl rfl (by omega) (by omega) (tgt := 53) dX2_servedWith_11 (by decide) (fun c_11 => ?_) (fun c_11 => ?_)
      · have ex : x2 = g_X2_servedWith_8 σ x 31 30 0 0 := ((br_p c_11 rfl) : x2 = g_X2_servedWith_8 σ x (fu + 1) w x3 x2).trans hg_8
        exact K_53 ls (by rw [← ex]; exact lv_sub hl [0, 1, 4] rfl)
      refine lv_iload_n hx hb dX2_servedWith_14 rfl (lv_at hl 3 rfl) ?_
      refine lv_aload_n hx hb dX2_servedWith_15 rfl (lv_at hl 0 rfl) ?_
      refine lv_iload_n hx hb dX2_servedWith_16 rfl (lv_at hl 1 rfl) ?_
      refine lv_iload hx hb dX2_servedWith_17 (lv_at hl 2 rfl) ?_
      refine sh_call (rest := [.int (x3)]) hx hb hml hown hts hK hP (c_X2_stockOfEdition l D cI o a σ x (nI w) (by with_reducible assumption)) (kV_X2_stockOfEdition hts ml_X2_216 ⟨(Nat.le_of_ble_eq_true rfl), (Nat.le_of_ble_eq_true rfl)⟩) rfl hl.1 rfl (Nat.le_of_ble_eq_true rfl) dX2_servedWith_19 (Nat.zero_le _) (Nat.zero_le _) ?_
      refine lv_iadd hx hb dX2_servedWith_22 ?_
      refine lv_istore_n (lv' := [(3, .int (x3 + (f_X2_stockOfEdition σ x (nI w)))), (0, .ref (o)), (1, .int (x)), (4, .int (nI w)), (2, .int (x2))]) hx hb dX2_servedWith_23 rfl hl (by decide) rfl (fun ls hl => ?_)
      refine lv_iload_n hx hb dX2_servedWith_24 rfl (lv_at hl 0 rfl) ?_
      refine lv_aload_n hx hb dX2_servedWith_25 rfl (lv_at hl 1 rfl) ?_
      refine lv_iload_n hx hb dX2_servedWith_26 rfl (lv_at hl 2 rfl) ?_
      refine lv_iload hx hb dX2_servedWith_27 (lv_at hl 3 rfl) ?_
      refine sh_call (rest := [.int (x3 + (f_X2_stockOfEdition σ x (nI w)))]) hx hb hml hown hts hK hP (c_X2_studentsFrom l D cI o a σ x (nI w) (by with_reducible assumption)) (kV_X2_studentsFrom hts ml_X2_219 ⟨(Nat.le_of_ble_eq_true rfl), (Nat.le_of_ble_eq_true rfl)⟩) rfl hl.1 rfl (Nat.le_of_ble_eq_true rfl) dX2_servedWith_29 (Nat.zero_le _) (Nat.zero_le _) ?_
      refine r_min hx hb hml hown hts hl.1 ml_X2_71 (Nat.le_of_ble_eq_true rfl) (Nat.le_of_ble_eq_true rfl) (Nat.zero_le _) (Nat.zero_le _) (rest := []) dX2_servedWith_32 ?_
      refine lv_istore (lv' := [(5, .int (if (f_X2_studentsFrom σ x (nI w)) < (x3 + (f_X2_stockOfEdition σ x (nI w))) then (f_X2_studentsFrom σ x (nI w)) else (x3 + (f_X2_stockOfEdition σ x (nI w))))), (3, .int (x3 + (f_X2_stockOfEdition σ x (nI w)))), (0, .ref (o)), (1, .int (x)), (4, .int (nI w)), (2, .int (x2))]) hx hb dX2_servedWith_35 hl (by decide) rfl (fun ls hl => ?_)
      refine lv_iload_n hx hb dX2_servedWith_37 rfl (lv_at hl 1 rfl) ?_
      refine lv_iload hx hb dX2_servedWith_38 (lv_at hl 0 rfl) ?_
      refine lv_isub hx hb dX2_servedWith_40 ?_
      refine lv_istore_n (lv' := [(3, .int ((x3 + (f_X2_stockOfEdition σ x (nI w))) - (if (f_X2_studentsFrom σ x (nI w)) < (x3 + (f_X2_stockOfEdition σ x (nI w))) then (f_X2_studentsFrom σ x (nI w)) else (x3 + (f_X2_stockOfEdition σ x (nI w)))))), (5, .int (if (f_X2_studentsFrom σ x (nI w)) < (x3 + (f_X2_stockOfEdition σ x (nI w))) then (f_X2_studentsFrom σ x (nI w)) else (x3 + (f_X2_stockOfEdition σ x (nI w))))), (0, .ref (o)), (1, .int (x)), (4, .int (nI w)), (2, .int (x2))]) hx hb dX2_servedWith_41 rfl hl (by decide) rfl (fun ls hl => ?_)
      refine lv_iload_n hx hb dX2_servedWith_42 rfl (lv_at hl 5 rfl) ?_
      refine lv_iload hx hb dX2_servedWith_43 (lv_at hl 1 rfl) ?_
      refine lv_iadd hx hb dX2_servedWith_45 ?_
      refine lv_istore_n (lv' := [(2, .int (x2 + (if (f_X2_studentsFrom σ x (nI w)) < (x3 + (f_X2_stockOfEdition σ x (nI w))) then (f_X2_studentsFrom σ x (nI w)) else (x3 + (f_X2_stockOfEdition σ x (nI w)))))), (3, .int ((x3 + (f_X2_stockOfEdition σ x (nI w))) - (if (f_X2_studentsFrom σ x (nI w)) < (x3 + (f_X2_stockOfEdition σ x (nI w))) then (f_X2_studentsFrom σ x (nI w)) else (x3 + (f_X2_stockOfEdition σ x (nI w)))))), (5, .int (if (f_X2_studentsFrom σ x (nI w)) < (x3 + (f_X2_stockOfEdition σ x (nI w))) then (f_X2_studentsFrom σ x (nI w)) else (x3 + (f_X2_stockOfEdition σ x (nI w))))), (0, .ref (o)), (1, .int (x)), (4, .int (nI w))]) hx hb dX2_servedWith_46 rfl hl (by decide) rfl (fun ls hl => ?_)
      refine lv_iinc (v := nI (w - 1)) (lv' := [(4, .int (nI (w - 1))), (2, .int (x2 + (if (f_X2_studentsFrom σ x (nI w)) < (x3 + (f_X2_stockOfEdition σ x (nI w))) then (f_X2_studentsFrom σ x (nI w)) else (x3 + (f_X2_stockOfEdition σ x (nI w)))))), (3, .int ((x3 + (f_X2_stockOfEdition σ x (nI w))) - (if (f_X2_studentsFrom σ x (nI w)) < (x3 + (f_X2_stockOfEdition σ x (nI w))) then (f_X2_studentsFrom σ x (nI w)) else (x3 + (f_X2_stockOfEdition σ x (nI w)))))), (5, .int (if (f_X2_studentsFrom σ x (nI w)) < (x3 + (f_X2_stockOfEdition σ x (nI w))) then (f_X2_studentsFrom σ x (nI w)) else (x3 + (f_X2_stockOfEdition σ x (nI w))))), (0, .ref (o)), (1, .int (x))]) hx hb dX2_servedWith_47 hl (k := 5) rfl (nI_cd (by omega)) (by decide) rfl (fun ls hl => ?_)
      refine lv_goto (tgt := 8) hx hb dX2_servedWith_50 (by decide) ?_
      exact ih (w - 1) ((x3 + (f_X2_stockOfEdition σ x (nI w))) - (if (f_X2_studentsFrom σ x (nI w)) < (x3 + (f_X2_stockOfEdition σ x (nI w))) then (f_X2_studentsFrom σ x (nI w)) else (x3 + (f_X2_stockOfEdition σ x (nI w))))) (x2 + (if (f_X2_studentsFrom σ x (nI w)) < (x3 + (f_X2_stockOfEdition σ x (nI w))) then (f_X2_studentsFrom σ x (nI w)) else (x3 + (f_X2_stockOfEdition σ x (nI w))))) (by omega) (by omega) (((br_n c_11 rfl) : g_X2_servedWith_8 σ x fu (w - 1) ((x3 + (f_X2_stockOfEdition σ x (nI w))) - (if (f_X2_studentsFrom σ x (nI w)) < (x3 + (f_X2_stockOfEdition σ x (nI w))) then (f_X2_studentsFrom σ x (nI w)) else (x3 + (f_X2_stockOfEdition σ x (nI w))))) (x2 + (if (f_X2_studentsFrom σ x (nI w)) < (x3 + (f_X2_stockOfEdition σ x (nI w))) then (f_X2_studentsFrom σ x (nI w)) else (x3 + (f_X2_stockOfEdition σ x (nI w))))) = g_X2_servedWith_8 σ x (fu + 1) w x3 x2).trans hg_8) ls (lv_sub hl [4, 5, 0, 2, 1] rfl)
  exact L_8 31 30 0 0 (by decide) (by decide) rfl ls (lv_sub hl [3, 4, 0, 1, 2] rfl)
theorem kV_X2_servedWith {R : Room} {s : State} {args : Array Value} {own : String} {idx : Nat} {c0 : Cond} (hts : ∀ w ∈ c0 :: W0, w.before args s = true) (hl : Cond.methodLink own idx yX2_servedWith ∈ W0) (hR : rm_X2_servedWith.frames + 1 ≤ R.frames ∧ 8 + (6 + 11) + rm_X2_servedWith.locals ≤ R.locals) : CallW R s args own RX2 idx yX2_servedWith cX2_servedWith 6 (some .int) (Cond.code yX2_servedWith cX2_servedWith 6 (some .int) :: W0) rm_X2_servedWith 0 0 1 := cwV 1 hts (gdV hl mi_yX2_servedWith ms_yX2_servedWith mini_X2 mc_yX2_servedWith) rfl rfl rfl (by decide +kernel) hR

/-! X2.servedStudents -/
def g_X2_servedStudents_4 (σ : Nat → Nat → Int32) : Nat → (Nat) → (Int32) → Int32
  | 0, k, x1 => x1
  | fu + 1, k, x1 => (if nT σ ≤ k then x1 else g_X2_servedStudents_4 σ fu (k + 1) (x1 + (f_X2_servedWith σ (nI k))))
def f_X2_servedStudents (σ : Nat → Nat → Int32) : Int32 := (g_X2_servedStudents_4 σ (nT σ + 1) 0 0)
abbrev rm_X2_servedStudents : Room := { frames := 2, cells := 0, slots := 0, locals := 49 }
set_option maxRecDepth 100000 in
theorem c_X2_servedStudents (l : Launch) (D : va_G) (cI : ClassId) (o : Nat) (a : Nat → Nat) (σ : Nat → Nat → Int32) (hok : okS σ) :
    Met l yX2_servedStudents (Cond.code yX2_servedStudents cX2_servedStudents 3 (some .int) :: W0) rm_X2_servedStudents (va_Pc [.ref o] (shP D cI o a σ)) (vp_Si (fun r => r = f_X2_servedStudents σ)) 0 0 (fun _ => False) := by
  refine st_gen (cc := cX2_servedStudents) (maxL := 3) (ret := some .int) (own := RX2) (by decide) rfl (Nat.le_of_ble_eq_true rfl) ?_
  intro p e s m below meth c ls C hPre hl
  obtain ⟨hx, hb, hr, hml, hown, hts, hlk⟩ := C
  obtain ⟨hP, hK⟩ := hPre
  have hl : lv_has ls 3 [(0, .ref (o))] := hl
  obtain ⟨hT6, hC6, hN6⟩ := okS_b hok
  refine lv_iconst (v := 0) hx hb dX2_servedStudents_0 (by decide) ?_
  refine lv_istore_n (lv' := [(1, .int (0)), (0, .ref (o))]) hx hb dX2_servedStudents_1 rfl hl (by decide) rfl (fun ls hl => ?_)
  refine lv_iconst (v := 0) hx hb dX2_servedStudents_2 (by decide) ?_
  refine lv_istore_n (lv' := [(2, .int (0)), (1, .int (0)), (0, .ref (o))]) hx hb dX2_servedStudents_3 rfl hl (by decide) rfl (fun ls hl => ?_)
  have K_26 : ∀ ls, lv_has ls 3 [(0, .ref (o)), (1, .int ((g_X2_servedStudents_4 σ (nT σ + 1) 0 0)))] → W p l e rm_X2_servedStudents s m (([.ref (o)] : List Value).toArray) below meth c s.heap [] 0 0 (MQ below (vp_Si (fun r => r = f_X2_servedStudents σ)) ([.ref (o)] : List Value).toArray s 0 0 (fun _ => False)) (F0 m 26 ls []) := by
    intro ls hl
    refine lv_iload_n hx hb dX2_servedStudents_26 rfl (lv_at hl 1 rfl) ?_
    exact fin_i hx hb hr hlk rfl dX2_servedStudents_27
  have L_4 : ∀ (fu : Nat) (k : Nat) (x1 : Int32), nT σ - k < fu → k ≤ nT σ → g_X2_servedStudents_4 σ fu k x1 = g_X2_servedStudents_4 σ (nT σ + 1) 0 0 → ∀ ls, lv_has ls 3 [(0, .ref (o)), (2, .int (nI k)), (1, .int (x1))] → W p l e rm_X2_servedStudents s m (([.ref (o)] : List Value).toArray) below meth c s.heap [] 0 0 (MQ below (vp_Si (fun r => r = f_X2_servedStudents σ)) ([.ref (o)] : List Value).toArray s 0 0 (fun _ => False)) (F0 m 4 ls []) := by
    intro fu
    induction fu with
    | zero => intro k x1 hm; exact absurd hm (Nat.not_lt_zero _)
    | succ fu ih =>
      intro k x1 hm hkN hg_4 ls hl
      refine lv_iload_n hx hb dX2_servedStudents_4 rfl (lv_at hl 1 rfl) ?_
      refine lv_aload_n hx hb dX2_servedStudents_5 rfl (lv_at hl 0 rfl) ?_
      refine sh_g1 hx hb hts hown hK hP (v := σ 1 0) rfl dX2_servedStudents_6 ?_
      refine lv_icmp_geN (k) (nT σ) hx hb rfl (okS_1 (σ := σ) (by with_reducible assumption)) (by omega) (by omega) (tgt := 26) dX2_servedStudents_9 (by decide) (fun c_9 => ?_) (fun c_9 => ?_)
      · have ex : x1 = g_X2_servedStudents_4 σ (nT σ + 1) 0 0 := ((br_p c_9 rfl) : x1 = g_X2_servedStudents_4 σ (fu + 1) k x1).trans hg_4
        exact K_26 ls (by rw [← ex]; exact lv_sub hl [0, 2] rfl)
      refine lv_iload_n hx hb dX2_servedStudents_12 rfl (lv_at hl 2 rfl) ?_
      refine lv_aload_n hx hb dX2_servedStudents_13 rfl (lv_at hl 0 rfl) ?_
      refine lv_iload_n hx hb dX2_servedStudents_14 rfl (lv_at hl 1 rfl) ?_
      refine sh_call (rest := [.int (x1)]) hx hb hml hown hts hK hP (c_X2_servedWith l D cI o a σ (nI k) (by with_reducible assumption)) (kV_X2_servedWith hts ml_X2_213 ⟨(Nat.le_of_ble_eq_true rfl), (Nat.le_of_ble_eq_true rfl)⟩) rfl hl.1 rfl (Nat.le_of_ble_eq_true rfl) dX2_servedStudents_15 (Nat.zero_le _) (Nat.zero_le _) ?_
      refine lv_iadd hx hb dX2_servedStudents_18 ?_
      refine lv_istore_n (lv' := [(1, .int (x1 + (f_X2_servedWith σ (nI k)))), (0, .ref (o)), (2, .int (nI k))]) hx hb dX2_servedStudents_19 rfl hl (by decide) rfl (fun ls hl => ?_)
      refine lv_iinc (v := nI (k + 1)) (lv' := [(2, .int (nI (k + 1))), (1, .int (x1 + (f_X2_servedWith σ (nI k)))), (0, .ref (o))]) hx hb dX2_servedStudents_20 hl (k := 2) rfl (nI_c1 _) (by decide) rfl (fun ls hl => ?_)
      refine lv_goto (tgt := 4) hx hb dX2_servedStudents_23 (by decide) ?_
      exact ih (k + 1) (x1 + (f_X2_servedWith σ (nI k))) (by omega) (by omega) (((br_n c_9 rfl) : g_X2_servedStudents_4 σ fu (k + 1) (x1 + (f_X2_servedWith σ (nI k))) = g_X2_servedStudents_4 σ (fu + 1) k x1).trans hg_4) ls (lv_sub hl [2, 0, 1] rfl)
  exact L_4 (nT σ + 1) 0 0 (by omega) (by omega) rfl ls (lv_sub hl [2, 0, 1] rfl)
theorem kV_X2_servedStudents {R : Room} {s : State} {args : Array Value} {own : String} {idx : Nat} {c0 : Cond} (hts : ∀ w ∈ c0 :: W0, w.before args s = true) (hl : Cond.methodLink own idx yX2_servedStudents ∈ W0) (hR : rm_X2_servedStudents.frames + 1 ≤ R.frames ∧ 8 + (3 + 11) + rm_X2_servedStudents.locals ≤ R.locals) : CallW R s args own RX2 idx yX2_servedStudents cX2_servedStudents 3 (some .int) (Cond.code yX2_servedStudents cX2_servedStudents 3 (some .int) :: W0) rm_X2_servedStudents 0 0 0 := cwV 0 hts (gdV hl mi_yX2_servedStudents ms_yX2_servedStudents mini_X2 mc_yX2_servedStudents) rfl rfl rfl (by decide +kernel) hR

/-! X2.lostAfter -/
def g_X2_lostAfter_18 (σ : Nat → Nat → Int32) (x : Int32) : Nat → (Nat) → (Int32) → Int32
  | 0, k, x2 => x2
  | fu + 1, k, x2 => (if nN σ ≤ k then x2 else (if (f_X2_isLostOn σ k ((σ 0 0) + x)) = 0 then g_X2_lostAfter_18 σ x fu (k + 1) x2 else g_X2_lostAfter_18 σ x fu (k + 1) (x2 + 1)))
def f_X2_lostAfter (σ : Nat → Nat → Int32) (x : Int32) : Int32 := (if (f_X2_isBetween x 1 400) = 0 then (-3) else (g_X2_lostAfter_18 σ x (nN σ + 1) 0 0))
abbrev rm_X2_lostAfter : Room := { frames := 1, cells := 0, slots := 0, locals := 22 }
set_option maxRecDepth 100000 in
theorem c_X2_lostAfter (l : Launch) (D : va_G) (cI : ClassId) (o : Nat) (a : Nat → Nat) (σ : Nat → Nat → Int32) (x : Int32) (hok : okS σ) :
    Met l yX2_lostAfter (Cond.code yX2_lostAfter cX2_lostAfter 4 (some .int) :: W0) rm_X2_lostAfter (va_Pc [.ref o, .int x] (shP D cI o a σ)) (vp_Si (fun r => r = f_X2_lostAfter σ x)) 0 0 (fun _ => False) := by
  refine st_gen (cc := cX2_lostAfter) (maxL := 4) (ret := some .int) (own := RX2) (by decide) rfl (Nat.le_of_ble_eq_true rfl) ?_
  intro p e s m below meth c ls C hPre hl
  obtain ⟨hx, hb, hr, hml, hown, hts, hlk⟩ := C
  obtain ⟨hP, hK⟩ := hPre
  have hl : lv_has ls 4 [(0, .ref (o)), (1, .int (x))] := hl
  obtain ⟨hT6, hC6, hN6⟩ := okS_b hok
  refine lv_iload_n hx hb dX2_lostAfter_0 rfl (lv_at hl 1 rfl) ?_
  refine lv_iconst (v := 1) hx hb dX2_lostAfter_1 (by decide) ?_
  refine lv_sipush (v := 400) hx hb dX2_lostAfter_2 (by decide) ?_
  refine cl_S (rest := []) hx hb hml hown hts (c_X2_isBetween l x 1 400) (kS_X2_isBetween hts ml_X2_93 ⟨(Nat.le_of_ble_eq_true rfl), (Nat.le_of_ble_eq_true rfl)⟩) rfl hl.1 rfl (Nat.le_of_ble_eq_true rfl) dX2_lostAfter_5 (Nat.zero_le _) (Nat.zero_le _) ?_
  refine lv_if_ne (tgt := 14) hx hb dX2_lostAfter_8 (by decide) (fun c_8 => ?_) (fun c_8 => ?_)
  · have v_8 := btwN 400 c_8 (by decide) rfl (by decide)
    have vb_8 := v_8.1
    refine lv_iconst (v := 0) hx hb dX2_lostAfter_14 (by decide) ?_
    refine lv_istore_n (lv' := [(2, .int (0)), (0, .ref (o)), (1, .int (x))]) hx hb dX2_lostAfter_15 rfl hl (by decide) rfl (fun ls hl => ?_)
    refine lv_iconst (v := 0) hx hb dX2_lostAfter_16 (by decide) ?_
    refine lv_istore_n (lv' := [(3, .int (0)), (2, .int (0)), (0, .ref (o)), (1, .int (x))]) hx hb dX2_lostAfter_17 rfl hl (by decide) rfl (fun ls hl => ?_)
    have K_49 : ∀ ls, lv_has ls 4 [(0, .ref (o)), (1, .int (x)), (2, .int ((g_X2_lostAfter_18 σ x (nN σ + 1) 0 0)))] → W p l e rm_X2_lostAfter s m (([.ref (o), .int (x)] : List Value).toArray) below meth c s.heap [] 0 0 (MQ below (vp_Si (fun r => r = f_X2_lostAfter σ x)) ([.ref (o), .int (x)] : List Value).toArray s 0 0 (fun _ => False)) (F0 m 49 ls []) := by
      intro ls hl
      refine lv_iload_n hx hb dX2_lostAfter_49 rfl (lv_at hl 2 rfl) ?_
      exact fin_i hx hb hr hlk (br_n c_8 rfl) dX2_lostAfter_50
    have L_18 : ∀ (fu : Nat) (k : Nat) (x2 : Int32), nN σ - k < fu → k ≤ nN σ → g_X2_lostAfter_18 σ x fu k x2 = g_X2_lostAfter_18 σ x (nN σ + 1) 0 0 → ∀ ls, lv_has ls 4 [(0, .ref (o)), (1, .int (x)), (3, .int (nI k)), (2, .int (x2))] → W p l e rm_X2_lostAfter s m (([.ref (o), .int (x)] : List Value).toArray) below meth c s.heap [] 0 0 (MQ below (vp_Si (fun r => r = f_X2_lostAfter σ x)) ([.ref (o), .int (x)] : List Value).toArray s 0 0 (fun _ => False)) (F0 m 18 ls []) := by
      intro fu
      induction fu with
      | zero => intro k x2 hm; exact absurd hm (Nat.not_lt_zero _)
      | succ fu ih =>
        intro k x2 hm hkN hg_18 ls hl
        refine lv_iload_n hx hb dX2_lostAfter_18 rfl (lv_at hl 2 rfl) ?_
        refine lv_aload_n hx hb dX2_lostAfter_19 rfl (lv_at hl 0 rfl) ?_
        refine sh_g3 hx hb hts hown hK hP (v := σ 3 0) rfl dX2_lostAfter_20 ?_
        refine lv_icmp_geN (k) (nN σ) hx hb rfl (okS_3 (σ := σ) (by with_reducible assumption)) (by omega) (by omega) (tgt := 49) dX2_lostAfter_23 (by decide) (fun c_23 => ?_) (fun c_23 => ?_)
        · have ex : x2 = g_X2_lostAfter_18 σ x (nN σ + 1) 0 0 := ((br_p c_23 rfl) : x2 = g_X2_lostAfter_18 σ x (fu + 1) k x2).trans hg_18
          exact K_49 ls (by rw [← ex]; exact lv_sub hl [0, 1, 3] rfl)
        refine lv_aload_n hx hb dX2_lostAfter_26 rfl (lv_at hl 0 rfl) ?_
        refine lv_iload_n hx hb dX2_lostAfter_27 rfl (lv_at hl 2 rfl) ?_
        refine lv_aload_n hx hb dX2_lostAfter_28 rfl (lv_at hl 0 rfl) ?_
        refine sh_g0 hx hb hts hown hK hP (v := σ 0 0) rfl dX2_lostAfter_29 ?_
        refine lv_iload_n hx hb dX2_lostAfter_32 rfl (lv_at hl 1 rfl) ?_
        refine lv_iadd hx hb dX2_lostAfter_33 ?_
        refine sh_call (rest := []) hx hb hml hown hts hK hP (c_X2_isLostOn l D cI o a σ (nI k) k rfl ((σ 0 0) + x) (by with_reducible assumption) (by first | with_reducible assumption | omega)) (kV_X2_isLostOn hts ml_X2_188 ⟨(Nat.le_of_ble_eq_true rfl), (Nat.le_of_ble_eq_true rfl)⟩) rfl hl.1 rfl (Nat.le_of_ble_eq_true rfl) dX2_lostAfter_34 (Nat.zero_le _) (Nat.zero_le _) ?_
        refine lv_if_eq (tgt := 43) hx hb dX2_lostAfter_37 (by decide) (fun c_37 => ?_) (fun c_37 => ?_)
        · refine lv_iinc (v := nI (k + 1)) (lv' := [(3, .int (nI (k + 1))), (0, .ref (o)), (1, .int (x)), (2, .int (x2))]) hx hb dX2_lostAfter_43 hl (k := 2) rfl (nI_c1 _) (by decide) rfl (fun ls hl => ?_)
          refine lv_goto (tgt := 18) hx hb dX2_lostAfter_46 (by decide) ?_
          exact ih (k + 1) x2 (by omega) (by omega) (((br_n c_23 (br_p c_37 rfl)) : g_X2_lostAfter_18 σ x fu (k + 1) x2 = g_X2_lostAfter_18 σ x (fu + 1) k x2).trans hg_18) ls (lv_sub hl [1, 2, 0, 3] rfl)
        refine lv_iinc (v := x2 + 1) (lv' := [(2, .int (x2 + 1)), (0, .ref (o)), (1, .int (x)), (3, .int (nI k))]) hx hb dX2_lostAfter_40 hl (k := 3) rfl rfl (by decide) rfl (fun ls hl => ?_)
        refine lv_iinc (v := nI (k + 1)) (lv' := [(3, .int (nI (k + 1))), (2, .int (x2 + 1)), (0, .ref (o)), (1, .int (x))]) hx hb dX2_lostAfter_43 hl (k := 3) rfl (nI_c1 _) (by decide) rfl (fun ls hl => ?_)
        refine lv_goto (tgt := 18) hx hb dX2_lostAfter_46 (by decide) ?_
        exact ih (k + 1) (x2 + 1) (by omega) (by omega) (((br_n c_23 (br_n c_37 rfl)) : g_X2_lostAfter_18 σ x fu (k + 1) (x2 + 1) = g_X2_lostAfter_18 σ x (fu + 1) k x2).trans hg_18) ls (lv_sub hl [2, 3, 0, 1] rfl)
    exact L_18 (nN σ + 1) 0 0 (by omega) (by omega) rfl ls (lv_sub hl [2, 3, 0, 1] rfl)
  refine lv_bipush (v := (-3)) hx hb dX2_lostAfter_11 (by decide) ?_
  exact fin_i hx hb hr hlk (br_p c_8 rfl) dX2_lostAfter_13
theorem kV_X2_lostAfter {R : Room} {s : State} {args : Array Value} {own : String} {idx : Nat} {c0 : Cond} (hts : ∀ w ∈ c0 :: W0, w.before args s = true) (hl : Cond.methodLink own idx yX2_lostAfter ∈ W0) (hR : rm_X2_lostAfter.frames + 1 ≤ R.frames ∧ 8 + (4 + 11) + rm_X2_lostAfter.locals ≤ R.locals) : CallW R s args own RX2 idx yX2_lostAfter cX2_lostAfter 4 (some .int) (Cond.code yX2_lostAfter cX2_lostAfter 4 (some .int) :: W0) rm_X2_lostAfter 0 0 1 := cwV 1 hts (gdV hl mi_yX2_lostAfter ms_yX2_lostAfter mini_X2 mc_yX2_lostAfter) rfl rfl rfl (by decide +kernel) hR

/-! X2.agingBy -/
def g_X2_agingBy_32 (σ : Nat → Nat → Int32) (x : Int32) : Nat → (Nat) → (Int32) → Int32
  | 0, k, x3 => x3
  | fu + 1, k, x3 => (if nN σ ≤ k then x3 else (if (σ 10 k) = x then (if (f_X2_isOwned σ k) = 0 then g_X2_agingBy_32 σ x fu (k + 1) x3 else g_X2_agingBy_32 σ x fu (k + 1) (x3 + ((f_X2_worthOf σ k) - (f_X2_worthBy σ (tn x) ((σ 6 (tn x)) + 1) (σ 11 k) (σ 12 k))))) else g_X2_agingBy_32 σ x fu (k + 1) x3))
def f_X2_agingBy (σ : Nat → Nat → Int32) (x : Int32) : Int32 := (if (f_X2_hasTitle σ x) = 0 then (-2) else (if (σ 6 (tn x)) < 30 then (g_X2_agingBy_32 σ x (nN σ + 1) 0 0) else (-5)))
abbrev rm_X2_agingBy : Room := { frames := 3, cells := 0, slots := 0, locals := 70 }
set_option maxRecDepth 100000 in
theorem c_X2_agingBy (l : Launch) (D : va_G) (cI : ClassId) (o : Nat) (a : Nat → Nat) (σ : Nat → Nat → Int32) (x : Int32) (hok : okS σ) :
    Met l yX2_agingBy (Cond.code yX2_agingBy cX2_agingBy 6 (some .int) :: W0) rm_X2_agingBy (va_Pc [.ref o, .int x] (shP D cI o a σ)) (vp_Si (fun r => r = f_X2_agingBy σ x)) 0 0 (fun _ => False) := by
  refine st_gen (cc := cX2_agingBy) (maxL := 6) (ret := some .int) (own := RX2) (by decide) rfl (Nat.le_of_ble_eq_true rfl) ?_
  intro p e s m below meth c ls C hPre hl
  obtain ⟨hx, hb, hr, hml, hown, hts, hlk⟩ := C
  obtain ⟨hP, hK⟩ := hPre
  have hl : lv_has ls 6 [(0, .ref (o)), (1, .int (x))] := hl
  obtain ⟨hT6, hC6, hN6⟩ := okS_b hok
  refine lv_aload_n hx hb dX2_agingBy_0 rfl (lv_at hl 0 rfl) ?_
  refine lv_iload_n hx hb dX2_agingBy_1 rfl (lv_at hl 1 rfl) ?_
  refine sh_call (rest := []) hx hb hml hown hts hK hP (c_X2_hasTitle l D cI o a σ x) (kV_X2_hasTitle hts ml_X2_90 ⟨(Nat.le_of_ble_eq_true rfl), (Nat.le_of_ble_eq_true rfl)⟩) rfl hl.1 rfl (Nat.le_of_ble_eq_true rfl) dX2_agingBy_2 (Nat.zero_le _) (Nat.zero_le _) ?_
  refine lv_if_ne (tgt := 11) hx hb dX2_agingBy_5 (by decide) (fun c_5 => ?_) (fun c_5 => ?_)
  · have v_5 := hasTitle_ok (σ := σ) (by with_reducible assumption) c_5
    have vb_5 := v_5.1
    refine lv_aload_n hx hb dX2_agingBy_11 rfl (lv_at hl 0 rfl) ?_
    refine sh_g6 hx hb hts hown hK hP dX2_agingBy_12 ?_
    refine lv_iload_n hx hb dX2_agingBy_15 rfl (lv_at hl 1 rfl) ?_
    refine sh_r6 hx hb hK hP (tn x) v_5.2 (by omega) (v := σ 6 (tn x)) rfl dX2_agingBy_16 ?_
    refine lv_istore_n (lv' := [(2, .int (σ 6 (tn x))), (0, .ref (o)), (1, .int (x))]) hx hb dX2_agingBy_17 rfl hl (by decide) rfl (fun ls hl => ?_)
    refine lv_iload_n hx hb dX2_agingBy_18 rfl (lv_at hl 0 rfl) ?_
    refine lv_bipush (v := 30) hx hb dX2_agingBy_19 (by decide) ?_
    refine lv_icmp_lt (tgt := 27) hx hb dX2_agingBy_21 (by decide) (fun c_21 => ?_) (fun c_21 => ?_)
    · refine lv_iconst (v := 0) hx hb dX2_agingBy_27 (by decide) ?_
      refine lv_istore_n (lv' := [(3, .int (0)), (2, .int (σ 6 (tn x))), (0, .ref (o)), (1, .int (x))]) hx hb dX2_agingBy_28 rfl hl (by decide) rfl (fun ls hl => ?_)
      refine lv_iconst (v := 0) hx hb dX2_agingBy_29 (by decide) ?_
      refine lv_istore (lv' := [(4, .int (0)), (3, .int (0)), (2, .int (σ 6 (tn x))), (0, .ref (o)), (1, .int (x))]) hx hb dX2_agingBy_30 hl (by decide) rfl (fun ls hl => ?_)
      have K_103 : ∀ ls, lv_has ls 6 [(2, .int (σ 6 (tn x))), (0, .ref (o)), (1, .int (x)), (3, .int ((g_X2_agingBy_32 σ x (nN σ + 1) 0 0)))] → W p l e rm_X2_agingBy s m (([.ref (o), .int (x)] : List Value).toArray) below meth c s.heap [] 0 0 (MQ below (vp_Si (fun r => r = f_X2_agingBy σ x)) ([.ref (o), .int (x)] : List Value).toArray s 0 0 (fun _ => False)) (F0 m 103 ls []) := by
        intro ls hl
        refine lv_iload_n hx hb dX2_agingBy_103 rfl (lv_at hl 3 rfl) ?_
        exact fin_i hx hb hr hlk (br_n c_5 (br_p c_21 rfl)) dX2_agingBy_104
      have L_32 : ∀ (fu : Nat) (k : Nat) (x3 : Int32), nN σ - k < fu → k ≤ nN σ → g_X2_agingBy_32 σ x fu k x3 = g_X2_agingBy_32 σ x (nN σ + 1) 0 0 → ∀ ls, lv_has ls 6 [(2, .int (σ 6 (tn x))), (0, .ref (o)), (1, .int (x)), (4, .int (nI k)), (3, .int (x3))] → W p l e rm_X2_agingBy s m (([.ref (o), .int (x)] : List Value).toArray) below meth c s.heap [] 0 0 (MQ below (vp_Si (fun r => r = f_X2_agingBy σ x)) ([.ref (o), .int (x)] : List Value).toArray s 0 0 (fun _ => False)) (F0 m 32 ls []) := by
        intro fu
        induction fu with
        | zero => intro k x3 hm; exact absurd hm (Nat.not_lt_zero _)
        | succ fu ih =>
          intro k x3 hm hkN hg_32 ls hl
          refine lv_iload hx hb dX2_agingBy_32 (lv_at hl 3 rfl) ?_
          refine lv_aload_n hx hb dX2_agingBy_34 rfl (lv_at hl 1 rfl) ?_
          refine sh_g3 hx hb hts hown hK hP (v := σ 3 0) rfl dX2_agingBy_35 ?_
          refine lv_icmp_geN (k) (nN σ) hx hb rfl (okS_3 (σ := σ) (by with_reducible assumption)) (by omega) (by omega) (tgt := 103) dX2_agingBy_38 (by decide) (fun c_38 => ?_) (fun c_38 => ?_)
          · have ex : x3 = g_X2_agingBy_32 σ x (nN σ + 1) 0 0 := ((br_p c_38 rfl) : x3 = g_X2_agingBy_32 σ x (fu + 1) k x3).trans hg_32
            exact K_103 ls (by rw [← ex]; exact lv_sub hl [0, 1, 2, 4] rfl)
          refine lv_aload_n hx hb dX2_agingBy_41 rfl (lv_at hl 1 rfl) ?_
          refine sh_g10 hx hb hts hown hK hP dX2_agingBy_42 ?_
          refine lv_iload hx hb dX2_agingBy_45 (lv_at hl 3 rfl) ?_
          refine sh_r10 hx hb hK hP (k) rfl (by omega) (v := σ 10 k) rfl dX2_agingBy_47 ?_
          refine lv_iload_n hx hb dX2_agingBy_48 rfl (lv_at hl 2 rfl) ?_
          refine lv_icmp_ne (tgt := 97) hx hb dX2_agingBy_49 (by decide) (fun c_49 => ?_) (fun c_49 => ?_)
          · refine lv_iinc (v := nI (k + 1)) (lv' := [(4, .int (nI (k + 1))), (2, .int (σ 6 (tn x))), (0, .ref (o)), (1, .int (x)), (3, .int (x3))]) hx hb dX2_agingBy_97 hl (k := 3) rfl (nI_c1 _) (by decide) rfl (fun ls hl => ?_)
            refine lv_goto (tgt := 32) hx hb dX2_agingBy_100 (by decide) ?_
            exact ih (k + 1) x3 (by omega) (by omega) (((br_n c_38 (br_n c_49 rfl)) : g_X2_agingBy_32 σ x fu (k + 1) x3 = g_X2_agingBy_32 σ x (fu + 1) k x3).trans hg_32) ls (lv_sub hl [1, 2, 3, 0, 4] rfl)
          refine lv_aload_n hx hb dX2_agingBy_52 rfl (lv_at hl 1 rfl) ?_
          refine lv_iload hx hb dX2_agingBy_53 (lv_at hl 3 rfl) ?_
          refine sh_call (rest := []) hx hb hml hown hts hK hP (c_X2_isOwned l D cI o a σ (nI k) k rfl (by with_reducible assumption) (by first | with_reducible assumption | omega)) (kV_X2_isOwned hts ml_X2_210 ⟨(Nat.le_of_ble_eq_true rfl), (Nat.le_of_ble_eq_true rfl)⟩) rfl hl.1 rfl (Nat.le_of_ble_eq_true rfl) dX2_agingBy_55 (Nat.zero_le _) (Nat.zero_le _) ?_
          refine lv_if_eq (tgt := 97) hx hb dX2_agingBy_58 (by decide) (fun c_58 => ?_) (fun c_58 => ?_)
          · refine lv_iinc (v := nI (k + 1)) (lv' := [(4, .int (nI (k + 1))), (2, .int (σ 6 (tn x))), (0, .ref (o)), (1, .int (x)), (3, .int (x3))]) hx hb dX2_agingBy_97 hl (k := 3) rfl (nI_c1 _) (by decide) rfl (fun ls hl => ?_)
            refine lv_goto (tgt := 32) hx hb dX2_agingBy_100 (by decide) ?_
            exact ih (k + 1) x3 (by omega) (by omega) (((br_n c_38 (br_p c_49 (br_p c_58 rfl))) : g_X2_agingBy_32 σ x fu (k + 1) x3 = g_X2_agingBy_32 σ x (fu + 1) k x3).trans hg_32) ls (lv_sub hl [1, 2, 3, 0, 4] rfl)
          refine lv_aload_n hx hb dX2_agingBy_61 rfl (lv_at hl 1 rfl) ?_
          refine lv_iload_n hx hb dX2_agingBy_62 rfl (lv_at hl 2 rfl) ?_
          refine lv_iload_n hx hb dX2_agingBy_63 rfl (lv_at hl 0 rfl) ?_
          refine lv_iconst (v := 1) hx hb dX2_agingBy_64 (by decide) ?_
          refine lv_iadd hx hb dX2_agingBy_65 ?_
          refine lv_aload_n hx hb dX2_agingBy_66 rfl (lv_at hl 1 rfl) ?_
          refine sh_g11 hx hb hts hown hK hP dX2_agingBy_67 ?_
          refine lv_iload hx hb dX2_agingBy_70 (lv_at hl 3 rfl) ?_
          refine sh_r11 hx hb hK hP (k) rfl (by omega) (v := σ 11 k) rfl dX2_agingBy_72 ?_
          refine lv_aload_n hx hb dX2_agingBy_73 rfl (lv_at hl 1 rfl) ?_
          refine sh_g12 hx hb hts hown hK hP dX2_agingBy_74 ?_
          refine lv_iload hx hb dX2_agingBy_77 (lv_at hl 3 rfl) ?_
          refine sh_r12 hx hb hK hP (k) rfl (by omega) (v := σ 12 k) rfl dX2_agingBy_79 ?_
          refine sh_call (rest := []) hx hb hml hown hts hK hP (c_X2_worthBy l D cI o a σ x (tn x) v_5.2 ((σ 6 (tn x)) + 1) (σ 11 k) (σ 12 k) (by first | with_reducible assumption | omega)) (kV_X2_worthBy hts ml_X2_164 ⟨(Nat.le_of_ble_eq_true rfl), (Nat.le_of_ble_eq_true rfl)⟩) rfl hl.1 rfl (Nat.le_of_ble_eq_true rfl) dX2_agingBy_80 (Nat.zero_le _) (Nat.zero_le _) ?_
          refine lv_istore (lv' := [(5, .int ((f_X2_worthBy σ (tn x) ((σ 6 (tn x)) + 1) (σ 11 k) (σ 12 k)))), (2, .int (σ 6 (tn x))), (0, .ref (o)), (1, .int (x)), (4, .int (nI k)), (3, .int (x3))]) hx hb dX2_agingBy_83 hl (by decide) rfl (fun ls hl => ?_)
          refine lv_iload_n hx hb dX2_agingBy_85 rfl (lv_at hl 5 rfl) ?_
          refine lv_aload_n hx hb dX2_agingBy_86 rfl (lv_at hl 2 rfl) ?_
          refine lv_iload hx hb dX2_agingBy_87 (lv_at hl 4 rfl) ?_
          refine sh_call (rest := [.int (x3)]) hx hb hml hown hts hK hP (c_X2_worthOf l D cI o a σ (nI k) k rfl (by with_reducible assumption) (by first | with_reducible assumption | omega)) (kV_X2_worthOf hts ml_X2_131 ⟨(Nat.le_of_ble_eq_true rfl), (Nat.le_of_ble_eq_true rfl)⟩) rfl hl.1 rfl (Nat.le_of_ble_eq_true rfl) dX2_agingBy_89 (Nat.zero_le _) (Nat.zero_le _) ?_
          refine lv_iload hx hb dX2_agingBy_92 (lv_at hl 0 rfl) ?_
          refine lv_isub hx hb dX2_agingBy_94 ?_
          refine lv_iadd hx hb dX2_agingBy_95 ?_
          refine lv_istore_n (lv' := [(3, .int (x3 + ((f_X2_worthOf σ k) - (f_X2_worthBy σ (tn x) ((σ 6 (tn x)) + 1) (σ 11 k) (σ 12 k))))), (5, .int ((f_X2_worthBy σ (tn x) ((σ 6 (tn x)) + 1) (σ 11 k) (σ 12 k)))), (2, .int (σ 6 (tn x))), (0, .ref (o)), (1, .int (x)), (4, .int (nI k))]) hx hb dX2_agingBy_96 rfl hl (by decide) rfl (fun ls hl => ?_)
          refine lv_iinc (v := nI (k + 1)) (lv' := [(4, .int (nI (k + 1))), (3, .int (x3 + ((f_X2_worthOf σ k) - (f_X2_worthBy σ (tn x) ((σ 6 (tn x)) + 1) (σ 11 k) (σ 12 k))))), (5, .int ((f_X2_worthBy σ (tn x) ((σ 6 (tn x)) + 1) (σ 11 k) (σ 12 k)))), (2, .int (σ 6 (tn x))), (0, .ref (o)), (1, .int (x))]) hx hb dX2_agingBy_97 hl (k := 5) rfl (nI_c1 _) (by decide) rfl (fun ls hl => ?_)
          refine lv_goto (tgt := 32) hx hb dX2_agingBy_100 (by decide) ?_
          exact ih (k + 1) (x3 + ((f_X2_worthOf σ k) - (f_X2_worthBy σ (tn x) ((σ 6 (tn x)) + 1) (σ 11 k) (σ 12 k)))) (by omega) (by omega) (((br_n c_38 (br_p c_49 (br_n c_58 rfl))) : g_X2_agingBy_32 σ x fu (k + 1) (x3 + ((f_X2_worthOf σ k) - (f_X2_worthBy σ (tn x) ((σ 6 (tn x)) + 1) (σ 11 k) (σ 12 k)))) = g_X2_agingBy_32 σ x (fu + 1) k x3).trans hg_32) ls (lv_sub hl [3, 4, 5, 0, 1] rfl)
      exact L_32 (nN σ + 1) 0 0 (by omega) (by omega) rfl ls (lv_sub hl [2, 3, 4, 0, 1] rfl)
    refine lv_bipush (v := (-5)) hx hb dX2_agingBy_24 (by decide) ?_
    exact fin_i hx hb hr hlk (br_n c_5 (br_n c_21 rfl)) dX2_agingBy_26
  refine lv_bipush (v := (-2)) hx hb dX2_agingBy_8 (by decide) ?_
  exact fin_i hx hb hr hlk (br_p c_5 rfl) dX2_agingBy_10
theorem kV_X2_agingBy {R : Room} {s : State} {args : Array Value} {own : String} {idx : Nat} {c0 : Cond} (hts : ∀ w ∈ c0 :: W0, w.before args s = true) (hl : Cond.methodLink own idx yX2_agingBy ∈ W0) (hR : rm_X2_agingBy.frames + 1 ≤ R.frames ∧ 8 + (6 + 11) + rm_X2_agingBy.locals ≤ R.locals) : CallW R s args own RX2 idx yX2_agingBy cX2_agingBy 6 (some .int) (Cond.code yX2_agingBy cX2_agingBy 6 (some .int) :: W0) rm_X2_agingBy 0 0 1 := cwV 1 hts (gdV hl mi_yX2_agingBy ms_yX2_agingBy mini_X2 mc_yX2_agingBy) rfl rfl rfl (by decide +kernel) hR

/-! X2.putTitle -/
def m_X2_putTitle (σ : Nat → Nat → Int32) (x : Int32) (y : Int32) : Int32 × (Nat → Nat → Int32) := (if (f_X2_isPrice x) = 0 then ((-3), σ) else (if (f_X2_isEdition y) = 0 then ((-3), σ) else (if nT σ < 6 then (((σ 1 0) + 1) - 1, (shS (shU (shU σ 5 (nT σ) x) 6 (nT σ) y) 1 ((σ 1 0) + 1))) else ((-5), σ))))
abbrev rm_X2_putTitle : Room := { frames := 2, cells := 0, slots := 0, locals := 42 }
set_option maxRecDepth 100000 in
theorem c_X2_putTitle (l : Launch) (D : va_G) (cI : ClassId) (o : Nat) (a : Nat → Nat) (σ : Nat → Nat → Int32) (x : Int32) (y : Int32) (hok : okS σ) :
    Met l yX2_putTitle (Cond.code yX2_putTitle cX2_putTitle 3 (some .int) :: W0) rm_X2_putTitle (va_Pc [.ref o, .int x, .int y] (shM D cI o a σ)) (shQ D cI o a (m_X2_putTitle σ x y)) 0 0 (shA o a) := by
  refine st_gen (cc := cX2_putTitle) (maxL := 3) (ret := some .int) (own := RX2) (by decide) rfl (Nat.le_of_ble_eq_true rfl) ?_
  intro p e s m below meth c ls C hPre hl
  obtain ⟨hx, hb, hr, hml, hown, hts, hlk⟩ := C
  obtain ⟨⟨hP, hK⟩, hD⟩ := hPre
  have hS : va_S (shA o a) s.heap s.heap [] := va_S.rf
  have hl : lv_has ls 3 [(0, .ref (o)), (1, .int (x)), (2, .int (y))] := hl
  obtain ⟨hT6, hC6, hN6⟩ := okS_b hok
  refine lv_iload_n hx hb dX2_putTitle_0 rfl (lv_at hl 1 rfl) ?_
  refine cl_S (rest := []) hx hb hml hown hts (c_X2_isPrice l x) (kS_X2_isPrice hts ml_X2_83 ⟨(Nat.le_of_ble_eq_true rfl), (Nat.le_of_ble_eq_true rfl)⟩) rfl hl.1 rfl (Nat.le_of_ble_eq_true rfl) dX2_putTitle_1 (Nat.zero_le _) (Nat.zero_le _) ?_
  refine lv_if_eq (tgt := 14) hx hb dX2_putTitle_4 (by decide) (fun c_4 => ?_) (fun c_4 => ?_)
  · refine lv_bipush (v := (-3)) hx hb dX2_putTitle_14 (by decide) ?_
    exact sh_finM hx hb hr hlk hK hP hS (br_p c_4 rfl) dX2_putTitle_16
  refine lv_iload_n hx hb dX2_putTitle_7 rfl (lv_at hl 2 rfl) ?_
  refine cl_S (rest := []) hx hb hml hown hts (c_X2_isEdition l y) (kS_X2_isEdition hts ml_X2_87 ⟨(Nat.le_of_ble_eq_true rfl), (Nat.le_of_ble_eq_true rfl)⟩) rfl hl.1 rfl (Nat.le_of_ble_eq_true rfl) dX2_putTitle_8 (Nat.zero_le _) (Nat.zero_le _) ?_
  refine lv_if_ne (tgt := 17) hx hb dX2_putTitle_11 (by decide) (fun c_11 => ?_) (fun c_11 => ?_)
  · refine lv_aload_n hx hb dX2_putTitle_17 rfl (lv_at hl 0 rfl) ?_
    refine sh_g1 hx hb hts hown hK hP (v := σ 1 0) rfl dX2_putTitle_18 ?_
    refine lv_bipush (v := 6) hx hb dX2_putTitle_21 (by decide) ?_
    refine lv_icmp_ltN (nT σ) (6) hx hb (okS_1 (σ := σ) (by with_reducible assumption)) rfl (by omega) (by omega) (tgt := 29) dX2_putTitle_23 (by decide) (fun c_23 => ?_) (fun c_23 => ?_)
    · refine lv_aload_n hx hb dX2_putTitle_29 rfl (lv_at hl 0 rfl) ?_
      refine sh_g5 hx hb hts hown hK hP dX2_putTitle_30 ?_
      refine lv_aload_n hx hb dX2_putTitle_33 rfl (lv_at hl 0 rfl) ?_
      refine sh_g1 hx hb hts hown hK hP (v := σ 1 0) rfl dX2_putTitle_34 ?_
      refine lv_iload_n hx hb dX2_putTitle_37 rfl (lv_at hl 1 rfl) ?_
      refine sh_w5 hx hb hK hP hD hS (nT σ) (okS_1 (σ := σ) (by with_reducible assumption)) (by omega) dX2_putTitle_38 (fun H locs hP hS => ?_)
      refine lv_aload_n hx hb dX2_putTitle_39 rfl (lv_at hl 0 rfl) ?_
      refine sh_g6 hx hb hts hown hK hP dX2_putTitle_40 ?_
      refine lv_aload_n hx hb dX2_putTitle_43 rfl (lv_at hl 0 rfl) ?_
      refine sh_g1 hx hb hts hown hK hP (v := σ 1 0) rfl dX2_putTitle_44 ?_
      refine lv_iload_n hx hb dX2_putTitle_47 rfl (lv_at hl 2 rfl) ?_
      refine sh_w6 hx hb hK hP hD hS (nT σ) (okS_1 (σ := σ) (by with_reducible assumption)) (by omega) dX2_putTitle_48 (fun H locs hP hS => ?_)
      refine lv_aload_n hx hb dX2_putTitle_49 rfl (lv_at hl 0 rfl) ?_
      refine lv_dup hx hb dX2_putTitle_50 rfl ?_
      refine sh_g1 hx hb hts hown hK hP (v := σ 1 0) rfl dX2_putTitle_51 ?_
      refine lv_iconst (v := 1) hx hb dX2_putTitle_54 (by decide) ?_
      refine lv_iadd hx hb dX2_putTitle_55 ?_
      refine sh_p1 hx hb hts hown hK hP hD hS dX2_putTitle_56 (fun H locs hP hS => ?_)
      refine lv_aload_n hx hb dX2_putTitle_59 rfl (lv_at hl 0 rfl) ?_
      refine sh_g1 hx hb hts hown hK hP (v := (σ 1 0) + 1) rfl dX2_putTitle_60 ?_
      refine lv_iconst (v := 1) hx hb dX2_putTitle_63 (by decide) ?_
      refine lv_isub hx hb dX2_putTitle_64 ?_
      exact sh_finM hx hb hr hlk hK hP hS (br_n c_4 (br_n c_11 (br_p c_23 rfl))) dX2_putTitle_65
    refine lv_bipush (v := (-5)) hx hb dX2_putTitle_26 (by decide) ?_
    exact sh_finM hx hb hr hlk hK hP hS (br_n c_4 (br_n c_11 (br_n c_23 rfl))) dX2_putTitle_28
  refine lv_bipush (v := (-3)) hx hb dX2_putTitle_14 (by decide) ?_
  exact sh_finM hx hb hr hlk hK hP hS (br_n c_4 (br_p c_11 rfl)) dX2_putTitle_16
theorem kV_X2_putTitle {R : Room} {s : State} {args : Array Value} {own : String} {idx : Nat} {c0 : Cond} (hts : ∀ w ∈ c0 :: W0, w.before args s = true) (hl : Cond.methodLink own idx yX2_putTitle ∈ W0) (hR : rm_X2_putTitle.frames + 1 ≤ R.frames ∧ 8 + (3 + 11) + rm_X2_putTitle.locals ≤ R.locals) : CallW R s args own RX2 idx yX2_putTitle cX2_putTitle 3 (some .int) (Cond.code yX2_putTitle cX2_putTitle 3 (some .int) :: W0) rm_X2_putTitle 0 0 2 := cwV 2 hts (gdV hl mi_yX2_putTitle ms_yX2_putTitle mini_X2 mc_yX2_putTitle) rfl rfl rfl (by decide +kernel) hR

/-! X2.changePrice -/
def m_X2_changePrice (σ : Nat → Nat → Int32) (x : Int32) (y : Int32) : Int32 × (Nat → Nat → Int32) := (if (f_X2_hasTitle σ x) = 0 then ((-2), σ) else (if (f_X2_isPrice y) = 0 then ((-3), σ) else (σ 5 (tn x), (shU σ 5 (tn x) y))))
abbrev rm_X2_changePrice : Room := { frames := 2, cells := 0, slots := 0, locals := 43 }
set_option maxRecDepth 100000 in
theorem c_X2_changePrice (l : Launch) (D : va_G) (cI : ClassId) (o : Nat) (a : Nat → Nat) (σ : Nat → Nat → Int32) (x : Int32) (y : Int32) (hok : okS σ) :
    Met l yX2_changePrice (Cond.code yX2_changePrice cX2_changePrice 4 (some .int) :: W0) rm_X2_changePrice (va_Pc [.ref o, .int x, .int y] (shM D cI o a σ)) (shQ D cI o a (m_X2_changePrice σ x y)) 0 0 (shA o a) := by
  refine st_gen (cc := cX2_changePrice) (maxL := 4) (ret := some .int) (own := RX2) (by decide) rfl (Nat.le_of_ble_eq_true rfl) ?_
  intro p e s m below meth c ls C hPre hl
  obtain ⟨hx, hb, hr, hml, hown, hts, hlk⟩ := C
  obtain ⟨⟨hP, hK⟩, hD⟩ := hPre
  have hS : va_S (shA o a) s.heap s.heap [] := va_S.rf
  have hl : lv_has ls 4 [(0, .ref (o)), (1, .int (x)), (2, .int (y))] := hl
  obtain ⟨hT6, hC6, hN6⟩ := okS_b hok
  refine lv_aload_n hx hb dX2_changePrice_0 rfl (lv_at hl 0 rfl) ?_
  refine lv_iload_n hx hb dX2_changePrice_1 rfl (lv_at hl 1 rfl) ?_
  refine sh_call (rest := []) hx hb hml hown hts hK hP (c_X2_hasTitle l D cI o a σ x) (kV_X2_hasTitle hts ml_X2_90 ⟨(Nat.le_of_ble_eq_true rfl), (Nat.le_of_ble_eq_true rfl)⟩) rfl hl.1 rfl (Nat.le_of_ble_eq_true rfl) dX2_changePrice_2 (Nat.zero_le _) (Nat.zero_le _) ?_
  refine lv_if_ne (tgt := 11) hx hb dX2_changePrice_5 (by decide) (fun c_5 => ?_) (fun c_5 => ?_)
  · have v_5 := hasTitle_ok (σ := σ) (by with_reducible assumption) c_5
    have vb_5 := v_5.1
    refine lv_iload_n hx hb dX2_changePrice_11 rfl (lv_at hl 2 rfl) ?_
    refine cl_S (rest := []) hx hb hml hown hts (c_X2_isPrice l y) (kS_X2_isPrice hts ml_X2_83 ⟨(Nat.le_of_ble_eq_true rfl), (Nat.le_of_ble_eq_true rfl)⟩) rfl hl.1 rfl (Nat.le_of_ble_eq_true rfl) dX2_changePrice_12 (Nat.zero_le _) (Nat.zero_le _) ?_
    refine lv_if_ne (tgt := 21) hx hb dX2_changePrice_15 (by decide) (fun c_15 => ?_) (fun c_15 => ?_)
    · refine lv_aload_n hx hb dX2_changePrice_21 rfl (lv_at hl 0 rfl) ?_
      refine sh_g5 hx hb hts hown hK hP dX2_changePrice_22 ?_
      refine lv_iload_n hx hb dX2_changePrice_25 rfl (lv_at hl 1 rfl) ?_
      refine sh_r5 hx hb hK hP (tn x) v_5.2 (by omega) (v := σ 5 (tn x)) rfl dX2_changePrice_26 ?_
      refine lv_istore_n (lv' := [(3, .int (σ 5 (tn x))), (0, .ref (o)), (1, .int (x)), (2, .int (y))]) hx hb dX2_changePrice_27 rfl hl (by decide) rfl (fun ls hl => ?_)
      refine lv_aload_n hx hb dX2_changePrice_28 rfl (lv_at hl 1 rfl) ?_
      refine sh_g5 hx hb hts hown hK hP dX2_changePrice_29 ?_
      refine lv_iload_n hx hb dX2_changePrice_32 rfl (lv_at hl 2 rfl) ?_
      refine lv_iload_n hx hb dX2_changePrice_33 rfl (lv_at hl 3 rfl) ?_
      refine sh_w5 hx hb hK hP hD hS (tn x) v_5.2 (by omega) dX2_changePrice_34 (fun H locs hP hS => ?_)
      refine lv_iload_n hx hb dX2_changePrice_35 rfl (lv_at hl 0 rfl) ?_
      exact sh_finM hx hb hr hlk hK hP hS (br_n c_5 (br_n c_15 rfl)) dX2_changePrice_36
    refine lv_bipush (v := (-3)) hx hb dX2_changePrice_18 (by decide) ?_
    exact sh_finM hx hb hr hlk hK hP hS (br_n c_5 (br_p c_15 rfl)) dX2_changePrice_20
  refine lv_bipush (v := (-2)) hx hb dX2_changePrice_8 (by decide) ?_
  exact sh_finM hx hb hr hlk hK hP hS (br_p c_5 rfl) dX2_changePrice_10
theorem kV_X2_changePrice {R : Room} {s : State} {args : Array Value} {own : String} {idx : Nat} {c0 : Cond} (hts : ∀ w ∈ c0 :: W0, w.before args s = true) (hl : Cond.methodLink own idx yX2_changePrice ∈ W0) (hR : rm_X2_changePrice.frames + 1 ≤ R.frames ∧ 8 + (4 + 11) + rm_X2_changePrice.locals ≤ R.locals) : CallW R s args own RX2 idx yX2_changePrice cX2_changePrice 4 (some .int) (Cond.code yX2_changePrice cX2_changePrice 4 (some .int) :: W0) rm_X2_changePrice 0 0 2 := cwV 2 hts (gdV hl mi_yX2_changePrice ms_yX2_changePrice mini_X2 mc_yX2_changePrice) rfl rfl rfl (by decide +kernel) hR

/-! X2.advanceEdition -/
def m_X2_advanceEdition (σ : Nat → Nat → Int32) (x : Int32) : Int32 × (Nat → Nat → Int32) := (if (f_X2_hasTitle σ x) = 0 then ((-2), σ) else (if (σ 6 (tn x)) < 30 then ((σ 6 (tn x)) + 1, (shU σ 6 (tn x) ((σ 6 (tn x)) + 1))) else ((-5), σ)))
abbrev rm_X2_advanceEdition : Room := { frames := 2, cells := 0, slots := 0, locals := 43 }
set_option maxRecDepth 100000 in
theorem c_X2_advanceEdition (l : Launch) (D : va_G) (cI : ClassId) (o : Nat) (a : Nat → Nat) (σ : Nat → Nat → Int32) (x : Int32) (hok : okS σ) :
    Met l yX2_advanceEdition (Cond.code yX2_advanceEdition cX2_advanceEdition 2 (some .int) :: W0) rm_X2_advanceEdition (va_Pc [.ref o, .int x] (shM D cI o a σ)) (shQ D cI o a (m_X2_advanceEdition σ x)) 0 0 (shA o a) := by
  refine st_gen (cc := cX2_advanceEdition) (maxL := 2) (ret := some .int) (own := RX2) (by decide) rfl (Nat.le_of_ble_eq_true rfl) ?_
  intro p e s m below meth c ls C hPre hl
  obtain ⟨hx, hb, hr, hml, hown, hts, hlk⟩ := C
  obtain ⟨⟨hP, hK⟩, hD⟩ := hPre
  have hS : va_S (shA o a) s.heap s.heap [] := va_S.rf
  have hl : lv_has ls 2 [(0, .ref (o)), (1, .int (x))] := hl
  obtain ⟨hT6, hC6, hN6⟩ := okS_b hok
  refine lv_aload_n hx hb dX2_advanceEdition_0 rfl (lv_at hl 0 rfl) ?_
  refine lv_iload_n hx hb dX2_advanceEdition_1 rfl (lv_at hl 1 rfl) ?_
  refine sh_call (rest := []) hx hb hml hown hts hK hP (c_X2_hasTitle l D cI o a σ x) (kV_X2_hasTitle hts ml_X2_90 ⟨(Nat.le_of_ble_eq_true rfl), (Nat.le_of_ble_eq_true rfl)⟩) rfl hl.1 rfl (Nat.le_of_ble_eq_true rfl) dX2_advanceEdition_2 (Nat.zero_le _) (Nat.zero_le _) ?_
  refine lv_if_ne (tgt := 11) hx hb dX2_advanceEdition_5 (by decide) (fun c_5 => ?_) (fun c_5 => ?_)
  · have v_5 := hasTitle_ok (σ := σ) (by with_reducible assumption) c_5
    have vb_5 := v_5.1
    refine lv_aload_n hx hb dX2_advanceEdition_11 rfl (lv_at hl 0 rfl) ?_
    refine sh_g6 hx hb hts hown hK hP dX2_advanceEdition_12 ?_
    refine lv_iload_n hx hb dX2_advanceEdition_15 rfl (lv_at hl 1 rfl) ?_
    refine sh_r6 hx hb hK hP (tn x) v_5.2 (by omega) (v := σ 6 (tn x)) rfl dX2_advanceEdition_16 ?_
    refine lv_bipush (v := 30) hx hb dX2_advanceEdition_17 (by decide) ?_
    refine lv_icmp_lt (tgt := 25) hx hb dX2_advanceEdition_19 (by decide) (fun c_19 => ?_) (fun c_19 => ?_)
    · refine lv_aload_n hx hb dX2_advanceEdition_25 rfl (lv_at hl 0 rfl) ?_
      refine sh_g6 hx hb hts hown hK hP dX2_advanceEdition_26 ?_
      refine lv_iload_n hx hb dX2_advanceEdition_29 rfl (lv_at hl 1 rfl) ?_
      refine lv_dup2_11 hx hb dX2_advanceEdition_30 rfl rfl ?_
      refine sh_r6 hx hb hK hP (tn x) v_5.2 (by omega) (v := σ 6 (tn x)) rfl dX2_advanceEdition_31 ?_
      refine lv_iconst (v := 1) hx hb dX2_advanceEdition_32 (by decide) ?_
      refine lv_iadd hx hb dX2_advanceEdition_33 ?_
      refine sh_w6 hx hb hK hP hD hS (tn x) v_5.2 (by omega) dX2_advanceEdition_34 (fun H locs hP hS => ?_)
      refine lv_aload_n hx hb dX2_advanceEdition_35 rfl (lv_at hl 0 rfl) ?_
      refine sh_g6 hx hb hts hown hK hP dX2_advanceEdition_36 ?_
      refine lv_iload_n hx hb dX2_advanceEdition_39 rfl (lv_at hl 1 rfl) ?_
      refine sh_r6 hx hb hK hP (tn x) v_5.2 (by omega) (v := (σ 6 (tn x)) + 1) shU_eq dX2_advanceEdition_40 ?_
      exact sh_finM hx hb hr hlk hK hP hS (br_n c_5 (br_p c_19 rfl)) dX2_advanceEdition_41
    refine lv_bipush (v := (-5)) hx hb dX2_advanceEdition_22 (by decide) ?_
    exact sh_finM hx hb hr hlk hK hP hS (br_n c_5 (br_n c_19 rfl)) dX2_advanceEdition_24
  refine lv_bipush (v := (-2)) hx hb dX2_advanceEdition_8 (by decide) ?_
  exact sh_finM hx hb hr hlk hK hP hS (br_p c_5 rfl) dX2_advanceEdition_10
theorem kV_X2_advanceEdition {R : Room} {s : State} {args : Array Value} {own : String} {idx : Nat} {c0 : Cond} (hts : ∀ w ∈ c0 :: W0, w.before args s = true) (hl : Cond.methodLink own idx yX2_advanceEdition ∈ W0) (hR : rm_X2_advanceEdition.frames + 1 ≤ R.frames ∧ 8 + (2 + 11) + rm_X2_advanceEdition.locals ≤ R.locals) : CallW R s args own RX2 idx yX2_advanceEdition cX2_advanceEdition 2 (some .int) (Cond.code yX2_advanceEdition cX2_advanceEdition 2 (some .int) :: W0) rm_X2_advanceEdition 0 0 1 := cwV 1 hts (gdV hl mi_yX2_advanceEdition ms_yX2_advanceEdition mini_X2 mc_yX2_advanceEdition) rfl rfl rfl (by decide +kernel) hR

/-! X2.putCourse -/
def m_X2_putCourse (σ : Nat → Nat → Int32) (x : Int32) (y : Int32) (z : Int32) : Int32 × (Nat → Nat → Int32) := (if (f_X2_hasTitle σ x) = 0 then ((-2), σ) else (if (f_X2_isEdition y) = 0 then ((-3), σ) else (if (f_X2_isBetween z 0 200) = 0 then ((-3), σ) else (if nC σ < 6 then (((σ 2 0) + 1) - 1, (shS (shU (shU (shU σ 7 (nC σ) x) 8 (nC σ) y) 9 (nC σ) z) 2 ((σ 2 0) + 1))) else ((-5), σ)))))
abbrev rm_X2_putCourse : Room := { frames := 2, cells := 0, slots := 0, locals := 43 }
set_option maxRecDepth 100000 in
theorem c_X2_putCourse (l : Launch) (D : va_G) (cI : ClassId) (o : Nat) (a : Nat → Nat) (σ : Nat → Nat → Int32) (x : Int32) (y : Int32) (z : Int32) (hok : okS σ) :
    Met l yX2_putCourse (Cond.code yX2_putCourse cX2_putCourse 4 (some .int) :: W0) rm_X2_putCourse (va_Pc [.ref o, .int x, .int y, .int z] (shM D cI o a σ)) (shQ D cI o a (m_X2_putCourse σ x y z)) 0 0 (shA o a) := by
  refine st_gen (cc := cX2_putCourse) (maxL := 4) (ret := some .int) (own := RX2) (by decide) rfl (Nat.le_of_ble_eq_true rfl) ?_
  intro p e s m below meth c ls C hPre hl
  obtain ⟨hx, hb, hr, hml, hown, hts, hlk⟩ := C
  obtain ⟨⟨hP, hK⟩, hD⟩ := hPre
  have hS : va_S (shA o a) s.heap s.heap [] := va_S.rf
  have hl : lv_has ls 4 [(0, .ref (o)), (1, .int (x)), (2, .int (y)), (3, .int (z))] := hl
  obtain ⟨hT6, hC6, hN6⟩ := okS_b hok
  refine lv_aload_n hx hb dX2_putCourse_0 rfl (lv_at hl 0 rfl) ?_
  refine lv_iload_n hx hb dX2_putCourse_1 rfl (lv_at hl 1 rfl) ?_
  refine sh_call (rest := []) hx hb hml hown hts hK hP (c_X2_hasTitle l D cI o a σ x) (kV_X2_hasTitle hts ml_X2_90 ⟨(Nat.le_of_ble_eq_true rfl), (Nat.le_of_ble_eq_true rfl)⟩) rfl hl.1 rfl (Nat.le_of_ble_eq_true rfl) dX2_putCourse_2 (Nat.zero_le _) (Nat.zero_le _) ?_
  refine lv_if_ne (tgt := 11) hx hb dX2_putCourse_5 (by decide) (fun c_5 => ?_) (fun c_5 => ?_)
  · have v_5 := hasTitle_ok (σ := σ) (by with_reducible assumption) c_5
    have vb_5 := v_5.1
    refine lv_iload_n hx hb dX2_putCourse_11 rfl (lv_at hl 2 rfl) ?_
    refine cl_S (rest := []) hx hb hml hown hts (c_X2_isEdition l y) (kS_X2_isEdition hts ml_X2_87 ⟨(Nat.le_of_ble_eq_true rfl), (Nat.le_of_ble_eq_true rfl)⟩) rfl hl.1 rfl (Nat.le_of_ble_eq_true rfl) dX2_putCourse_12 (Nat.zero_le _) (Nat.zero_le _) ?_
    refine lv_if_eq (tgt := 29) hx hb dX2_putCourse_15 (by decide) (fun c_15 => ?_) (fun c_15 => ?_)
    · refine lv_bipush (v := (-3)) hx hb dX2_putCourse_29 (by decide) ?_
      exact sh_finM hx hb hr hlk hK hP hS (br_n c_5 (br_p c_15 rfl)) dX2_putCourse_31
    refine lv_iload_n hx hb dX2_putCourse_18 rfl (lv_at hl 3 rfl) ?_
    refine lv_iconst (v := 0) hx hb dX2_putCourse_19 (by decide) ?_
    refine lv_sipush (v := 200) hx hb dX2_putCourse_20 (by decide) ?_
    refine cl_S (rest := []) hx hb hml hown hts (c_X2_isBetween l z 0 200) (kS_X2_isBetween hts ml_X2_93 ⟨(Nat.le_of_ble_eq_true rfl), (Nat.le_of_ble_eq_true rfl)⟩) rfl hl.1 rfl (Nat.le_of_ble_eq_true rfl) dX2_putCourse_23 (Nat.zero_le _) (Nat.zero_le _) ?_
    refine lv_if_ne (tgt := 32) hx hb dX2_putCourse_26 (by decide) (fun c_26 => ?_) (fun c_26 => ?_)
    · have v_26 := btwN 200 c_26 (by decide) rfl (by decide)
      have vb_26 := v_26.1
      refine lv_aload_n hx hb dX2_putCourse_32 rfl (lv_at hl 0 rfl) ?_
      refine sh_g2 hx hb hts hown hK hP (v := σ 2 0) rfl dX2_putCourse_33 ?_
      refine lv_bipush (v := 6) hx hb dX2_putCourse_36 (by decide) ?_
      refine lv_icmp_ltN (nC σ) (6) hx hb (okS_2 (σ := σ) (by with_reducible assumption)) rfl (by omega) (by omega) (tgt := 44) dX2_putCourse_38 (by decide) (fun c_38 => ?_) (fun c_38 => ?_)
      · refine lv_aload_n hx hb dX2_putCourse_44 rfl (lv_at hl 0 rfl) ?_
        refine sh_g7 hx hb hts hown hK hP dX2_putCourse_45 ?_
        refine lv_aload_n hx hb dX2_putCourse_48 rfl (lv_at hl 0 rfl) ?_
        refine sh_g2 hx hb hts hown hK hP (v := σ 2 0) rfl dX2_putCourse_49 ?_
        refine lv_iload_n hx hb dX2_putCourse_52 rfl (lv_at hl 1 rfl) ?_
        refine sh_w7 hx hb hK hP hD hS (nC σ) (okS_2 (σ := σ) (by with_reducible assumption)) (by omega) dX2_putCourse_53 (fun H locs hP hS => ?_)
        refine lv_aload_n hx hb dX2_putCourse_54 rfl (lv_at hl 0 rfl) ?_
        refine sh_g8 hx hb hts hown hK hP dX2_putCourse_55 ?_
        refine lv_aload_n hx hb dX2_putCourse_58 rfl (lv_at hl 0 rfl) ?_
        refine sh_g2 hx hb hts hown hK hP (v := σ 2 0) rfl dX2_putCourse_59 ?_
        refine lv_iload_n hx hb dX2_putCourse_62 rfl (lv_at hl 2 rfl) ?_
        refine sh_w8 hx hb hK hP hD hS (nC σ) (okS_2 (σ := σ) (by with_reducible assumption)) (by omega) dX2_putCourse_63 (fun H locs hP hS => ?_)
        refine lv_aload_n hx hb dX2_putCourse_64 rfl (lv_at hl 0 rfl) ?_
        refine sh_g9 hx hb hts hown hK hP dX2_putCourse_65 ?_
        refine lv_aload_n hx hb dX2_putCourse_68 rfl (lv_at hl 0 rfl) ?_
        refine sh_g2 hx hb hts hown hK hP (v := σ 2 0) rfl dX2_putCourse_69 ?_
        refine lv_iload_n hx hb dX2_putCourse_72 rfl (lv_at hl 3 rfl) ?_
        refine sh_w9 hx hb hK hP hD hS (nC σ) (okS_2 (σ := σ) (by with_reducible assumption)) (by omega) dX2_putCourse_73 (fun H locs hP hS => ?_)
        refine lv_aload_n hx hb dX2_putCourse_74 rfl (lv_at hl 0 rfl) ?_
        refine lv_dup hx hb dX2_putCourse_75 rfl ?_
        refine sh_g2 hx hb hts hown hK hP (v := σ 2 0) rfl dX2_putCourse_76 ?_
        refine lv_iconst (v := 1) hx hb dX2_putCourse_79 (by decide) ?_
        refine lv_iadd hx hb dX2_putCourse_80 ?_
        refine sh_p2 hx hb hts hown hK hP hD hS dX2_putCourse_81 (fun H locs hP hS => ?_)
        refine lv_aload_n hx hb dX2_putCourse_84 rfl (lv_at hl 0 rfl) ?_
        refine sh_g2 hx hb hts hown hK hP (v := (σ 2 0) + 1) rfl dX2_putCourse_85 ?_
        refine lv_iconst (v := 1) hx hb dX2_putCourse_88 (by decide) ?_
        refine lv_isub hx hb dX2_putCourse_89 ?_
        exact sh_finM hx hb hr hlk hK hP hS (br_n c_5 (br_n c_15 (br_n c_26 (br_p c_38 rfl)))) dX2_putCourse_90
      refine lv_bipush (v := (-5)) hx hb dX2_putCourse_41 (by decide) ?_
      exact sh_finM hx hb hr hlk hK hP hS (br_n c_5 (br_n c_15 (br_n c_26 (br_n c_38 rfl)))) dX2_putCourse_43
    refine lv_bipush (v := (-3)) hx hb dX2_putCourse_29 (by decide) ?_
    exact sh_finM hx hb hr hlk hK hP hS (br_n c_5 (br_n c_15 (br_p c_26 rfl))) dX2_putCourse_31
  refine lv_bipush (v := (-2)) hx hb dX2_putCourse_8 (by decide) ?_
  exact sh_finM hx hb hr hlk hK hP hS (br_p c_5 rfl) dX2_putCourse_10
theorem kV_X2_putCourse {R : Room} {s : State} {args : Array Value} {own : String} {idx : Nat} {c0 : Cond} (hts : ∀ w ∈ c0 :: W0, w.before args s = true) (hl : Cond.methodLink own idx yX2_putCourse ∈ W0) (hR : rm_X2_putCourse.frames + 1 ≤ R.frames ∧ 8 + (4 + 11) + rm_X2_putCourse.locals ≤ R.locals) : CallW R s args own RX2 idx yX2_putCourse cX2_putCourse 4 (some .int) (Cond.code yX2_putCourse cX2_putCourse 4 (some .int) :: W0) rm_X2_putCourse 0 0 3 := cwV 3 hts (gdV hl mi_yX2_putCourse ms_yX2_putCourse mini_X2 mc_yX2_putCourse) rfl rfl rfl (by decide +kernel) hR

/-! X2.changeCourse -/
def m_X2_changeCourse (σ : Nat → Nat → Int32) (x : Int32) (y : Int32) (z : Int32) : Int32 × (Nat → Nat → Int32) := (if (f_X2_hasCourse σ x) = 0 then ((-2), σ) else (if (f_X2_isEdition y) = 0 then ((-3), σ) else (if (f_X2_isBetween z 0 200) = 0 then ((-3), σ) else (σ 9 (tn x), (shU (shU σ 8 (tn x) y) 9 (tn x) z)))))
abbrev rm_X2_changeCourse : Room := { frames := 2, cells := 0, slots := 0, locals := 43 }
set_option maxRecDepth 100000 in
theorem c_X2_changeCourse (l : Launch) (D : va_G) (cI : ClassId) (o : Nat) (a : Nat → Nat) (σ : Nat → Nat → Int32) (x : Int32) (y : Int32) (z : Int32) (hok : okS σ) :
    Met l yX2_changeCourse (Cond.code yX2_changeCourse cX2_changeCourse 5 (some .int) :: W0) rm_X2_changeCourse (va_Pc [.ref o, .int x, .int y, .int z] (shM D cI o a σ)) (shQ D cI o a (m_X2_changeCourse σ x y z)) 0 0 (shA o a) := by
  refine st_gen (cc := cX2_changeCourse) (maxL := 5) (ret := some .int) (own := RX2) (by decide) rfl (Nat.le_of_ble_eq_true rfl) ?_
  intro p e s m below meth c ls C hPre hl
  obtain ⟨hx, hb, hr, hml, hown, hts, hlk⟩ := C
  obtain ⟨⟨hP, hK⟩, hD⟩ := hPre
  have hS : va_S (shA o a) s.heap s.heap [] := va_S.rf
  have hl : lv_has ls 5 [(0, .ref (o)), (1, .int (x)), (2, .int (y)), (3, .int (z))] := hl
  obtain ⟨hT6, hC6, hN6⟩ := okS_b hok
  refine lv_aload_n hx hb dX2_changeCourse_0 rfl (lv_at hl 0 rfl) ?_
  refine lv_iload_n hx hb dX2_changeCourse_1 rfl (lv_at hl 1 rfl) ?_
  refine sh_call (rest := []) hx hb hml hown hts hK hP (c_X2_hasCourse l D cI o a σ x) (kV_X2_hasCourse hts ml_X2_97 ⟨(Nat.le_of_ble_eq_true rfl), (Nat.le_of_ble_eq_true rfl)⟩) rfl hl.1 rfl (Nat.le_of_ble_eq_true rfl) dX2_changeCourse_2 (Nat.zero_le _) (Nat.zero_le _) ?_
  refine lv_if_ne (tgt := 11) hx hb dX2_changeCourse_5 (by decide) (fun c_5 => ?_) (fun c_5 => ?_)
  · have v_5 := hasCourse_ok (σ := σ) (by with_reducible assumption) c_5
    have vb_5 := v_5.1
    refine lv_iload_n hx hb dX2_changeCourse_11 rfl (lv_at hl 2 rfl) ?_
    refine cl_S (rest := []) hx hb hml hown hts (c_X2_isEdition l y) (kS_X2_isEdition hts ml_X2_87 ⟨(Nat.le_of_ble_eq_true rfl), (Nat.le_of_ble_eq_true rfl)⟩) rfl hl.1 rfl (Nat.le_of_ble_eq_true rfl) dX2_changeCourse_12 (Nat.zero_le _) (Nat.zero_le _) ?_
    refine lv_if_eq (tgt := 29) hx hb dX2_changeCourse_15 (by decide) (fun c_15 => ?_) (fun c_15 => ?_)
    · refine lv_bipush (v := (-3)) hx hb dX2_changeCourse_29 (by decide) ?_
      exact sh_finM hx hb hr hlk hK hP hS (br_n c_5 (br_p c_15 rfl)) dX2_changeCourse_31
    refine lv_iload_n hx hb dX2_changeCourse_18 rfl (lv_at hl 3 rfl) ?_
    refine lv_iconst (v := 0) hx hb dX2_changeCourse_19 (by decide) ?_
    refine lv_sipush (v := 200) hx hb dX2_changeCourse_20 (by decide) ?_
    refine cl_S (rest := []) hx hb hml hown hts (c_X2_isBetween l z 0 200) (kS_X2_isBetween hts ml_X2_93 ⟨(Nat.le_of_ble_eq_true rfl), (Nat.le_of_ble_eq_true rfl)⟩) rfl hl.1 rfl (Nat.le_of_ble_eq_true rfl) dX2_changeCourse_23 (Nat.zero_le _) (Nat.zero_le _) ?_
    refine lv_if_ne (tgt := 32) hx hb dX2_changeCourse_26 (by decide) (fun c_26 => ?_) (fun c_26 => ?_)
    · have v_26 := btwN 200 c_26 (by decide) rfl (by decide)
      have vb_26 := v_26.1
      refine lv_aload_n hx hb dX2_changeCourse_32 rfl (lv_at hl 0 rfl) ?_
      refine sh_g9 hx hb hts hown hK hP dX2_changeCourse_33 ?_
      refine lv_iload_n hx hb dX2_changeCourse_36 rfl (lv_at hl 1 rfl) ?_
      refine sh_r9 hx hb hK hP (tn x) v_5.2 (by omega) (v := σ 9 (tn x)) rfl dX2_changeCourse_37 ?_
      refine lv_istore (lv' := [(4, .int (σ 9 (tn x))), (0, .ref (o)), (1, .int (x)), (2, .int (y)), (3, .int (z))]) hx hb dX2_changeCourse_38 hl (by decide) rfl (fun ls hl => ?_)
      refine lv_aload_n hx hb dX2_changeCourse_40 rfl (lv_at hl 1 rfl) ?_
      refine sh_g8 hx hb hts hown hK hP dX2_changeCourse_41 ?_
      refine lv_iload_n hx hb dX2_changeCourse_44 rfl (lv_at hl 2 rfl) ?_
      refine lv_iload_n hx hb dX2_changeCourse_45 rfl (lv_at hl 3 rfl) ?_
      refine sh_w8 hx hb hK hP hD hS (tn x) v_5.2 (by omega) dX2_changeCourse_46 (fun H locs hP hS => ?_)
      refine lv_aload_n hx hb dX2_changeCourse_47 rfl (lv_at hl 1 rfl) ?_
      refine sh_g9 hx hb hts hown hK hP dX2_changeCourse_48 ?_
      refine lv_iload_n hx hb dX2_changeCourse_51 rfl (lv_at hl 2 rfl) ?_
      refine lv_iload_n hx hb dX2_changeCourse_52 rfl (lv_at hl 4 rfl) ?_
      refine sh_w9 hx hb hK hP hD hS (tn x) v_5.2 (by omega) dX2_changeCourse_53 (fun H locs hP hS => ?_)
      refine lv_iload hx hb dX2_changeCourse_54 (lv_at hl 0 rfl) ?_
      exact sh_finM hx hb hr hlk hK hP hS (br_n c_5 (br_n c_15 (br_n c_26 rfl))) dX2_changeCourse_56
    refine lv_bipush (v := (-3)) hx hb dX2_changeCourse_29 (by decide) ?_
    exact sh_finM hx hb hr hlk hK hP hS (br_n c_5 (br_n c_15 (br_p c_26 rfl))) dX2_changeCourse_31
  refine lv_bipush (v := (-2)) hx hb dX2_changeCourse_8 (by decide) ?_
  exact sh_finM hx hb hr hlk hK hP hS (br_p c_5 rfl) dX2_changeCourse_10
theorem kV_X2_changeCourse {R : Room} {s : State} {args : Array Value} {own : String} {idx : Nat} {c0 : Cond} (hts : ∀ w ∈ c0 :: W0, w.before args s = true) (hl : Cond.methodLink own idx yX2_changeCourse ∈ W0) (hR : rm_X2_changeCourse.frames + 1 ≤ R.frames ∧ 8 + (5 + 11) + rm_X2_changeCourse.locals ≤ R.locals) : CallW R s args own RX2 idx yX2_changeCourse cX2_changeCourse 5 (some .int) (Cond.code yX2_changeCourse cX2_changeCourse 5 (some .int) :: W0) rm_X2_changeCourse 0 0 3 := cwV 3 hts (gdV hl mi_yX2_changeCourse ms_yX2_changeCourse mini_X2 mc_yX2_changeCourse) rfl rfl rfl (by decide +kernel) hR

/-! X2.putCopy -/
def s_X2_putCopy (σ : Nat → Nat → Int32) (x : Int32) (y : Int32) (z : Int32) : Nat → Nat → Int32 := (shS (shU (shU (shU (shU σ 10 (tn (σ 3 0)) x) 11 (tn (σ 3 0)) y) 12 (tn (σ 3 0)) z) 13 (tn (σ 3 0)) 0) 3 ((σ 3 0) + 1))
abbrev rm_X2_putCopy : Room := { frames := 0, cells := 0, slots := 0, locals := 0 }
set_option maxRecDepth 100000 in
theorem c_X2_putCopy (l : Launch) (D : va_G) (cI : ClassId) (o : Nat) (a : Nat → Nat) (σ : Nat → Nat → Int32) (x : Int32) (y : Int32) (z : Int32) (hn : σ 3 0 = nI (tn (σ 3 0))) (hn2 : tn (σ 3 0) < 60) :
    Met l yX2_putCopy (Cond.code yX2_putCopy cX2_putCopy 4 (none) :: W0) rm_X2_putCopy (va_Pc [.ref o, .int x, .int y, .int z] (shM D cI o a σ)) (shV D cI o a (s_X2_putCopy σ x y z)) 0 0 (shA o a) := by
  refine st_gen (cc := cX2_putCopy) (maxL := 4) (ret := none) (own := RX2) (by decide) rfl (Nat.le_of_ble_eq_true rfl) ?_
  intro p e s m below meth c ls C hPre hl
  obtain ⟨hx, hb, hr, hml, hown, hts, hlk⟩ := C
  obtain ⟨⟨hP, hK⟩, hD⟩ := hPre
  have hS : va_S (shA o a) s.heap s.heap [] := va_S.rf
  have hl : lv_has ls 4 [(0, .ref (o)), (1, .int (x)), (2, .int (y)), (3, .int (z))] := hl
  refine lv_aload_n hx hb dX2_putCopy_0 rfl (lv_at hl 0 rfl) ?_
  refine sh_g10 hx hb hts hown hK hP dX2_putCopy_1 ?_
  refine lv_aload_n hx hb dX2_putCopy_4 rfl (lv_at hl 0 rfl) ?_
  refine sh_g3 hx hb hts hown hK hP (v := σ 3 0) rfl dX2_putCopy_5 ?_
  refine lv_iload_n hx hb dX2_putCopy_8 rfl (lv_at hl 1 rfl) ?_
  refine sh_w10 hx hb hK hP hD hS (tn (σ 3 0)) hn (by omega) dX2_putCopy_9 (fun H locs hP hS => ?_)
  refine lv_aload_n hx hb dX2_putCopy_10 rfl (lv_at hl 0 rfl) ?_
  refine sh_g11 hx hb hts hown hK hP dX2_putCopy_11 ?_
  refine lv_aload_n hx hb dX2_putCopy_14 rfl (lv_at hl 0 rfl) ?_
  refine sh_g3 hx hb hts hown hK hP (v := σ 3 0) rfl dX2_putCopy_15 ?_
  refine lv_iload_n hx hb dX2_putCopy_18 rfl (lv_at hl 2 rfl) ?_
  refine sh_w11 hx hb hK hP hD hS (tn (σ 3 0)) hn (by omega) dX2_putCopy_19 (fun H locs hP hS => ?_)
  refine lv_aload_n hx hb dX2_putCopy_20 rfl (lv_at hl 0 rfl) ?_
  refine sh_g12 hx hb hts hown hK hP dX2_putCopy_21 ?_
  refine lv_aload_n hx hb dX2_putCopy_24 rfl (lv_at hl 0 rfl) ?_
  refine sh_g3 hx hb hts hown hK hP (v := σ 3 0) rfl dX2_putCopy_25 ?_
  refine lv_iload_n hx hb dX2_putCopy_28 rfl (lv_at hl 3 rfl) ?_
  refine sh_w12 hx hb hK hP hD hS (tn (σ 3 0)) hn (by omega) dX2_putCopy_29 (fun H locs hP hS => ?_)
  refine lv_aload_n hx hb dX2_putCopy_30 rfl (lv_at hl 0 rfl) ?_
  refine sh_g13 hx hb hts hown hK hP dX2_putCopy_31 ?_
  refine lv_aload_n hx hb dX2_putCopy_34 rfl (lv_at hl 0 rfl) ?_
  refine sh_g3 hx hb hts hown hK hP (v := σ 3 0) rfl dX2_putCopy_35 ?_
  refine lv_iconst (v := 0) hx hb dX2_putCopy_38 (by decide) ?_
  refine sh_w13 hx hb hK hP hD hS (tn (σ 3 0)) hn (by omega) dX2_putCopy_39 (fun H locs hP hS => ?_)
  refine lv_aload_n hx hb dX2_putCopy_40 rfl (lv_at hl 0 rfl) ?_
  refine lv_dup hx hb dX2_putCopy_41 rfl ?_
  refine sh_g3 hx hb hts hown hK hP (v := σ 3 0) rfl dX2_putCopy_42 ?_
  refine lv_iconst (v := 1) hx hb dX2_putCopy_45 (by decide) ?_
  refine lv_iadd hx hb dX2_putCopy_46 ?_
  refine sh_p3 hx hb hts hown hK hP hD hS dX2_putCopy_47 (fun H locs hP hS => ?_)
  exact sh_finV hx hb hr hlk hK hP hS rfl dX2_putCopy_50
theorem kV_X2_putCopy {R : Room} {s : State} {args : Array Value} {own : String} {idx : Nat} {c0 : Cond} (hts : ∀ w ∈ c0 :: W0, w.before args s = true) (hl : Cond.methodLink own idx yX2_putCopy ∈ W0) (hR : rm_X2_putCopy.frames + 1 ≤ R.frames ∧ 8 + (4 + 11) + rm_X2_putCopy.locals ≤ R.locals) : CallW R s args own RX2 idx yX2_putCopy cX2_putCopy 4 (none) (Cond.code yX2_putCopy cX2_putCopy 4 (none) :: W0) rm_X2_putCopy 0 0 3 := cwV 3 hts (gdV hl mi_yX2_putCopy ms_yX2_putCopy mini_X2 mc_yX2_putCopy) rfl rfl rfl (by decide +kernel) hR

/-! X2.buyNew -/
def g_X2_buyNew_46 (σ : Nat → Nat → Int32) (x : Int32) (y : Int32) : Nat → (Nat) → (Nat → Nat → Int32) → (Nat → Nat → Int32)
  | 0, k, ω => ω
  | fu + 1, k, ω => (if tn y ≤ k then ω else g_X2_buyNew_46 σ x y fu (k + 1) (s_X2_putCopy ω x (ω 6 (tn x)) 0))
def m_X2_buyNew (σ : Nat → Nat → Int32) (x : Int32) (y : Int32) : Int32 × (Nat → Nat → Int32) := (if (f_X2_hasTitle σ x) = 0 then ((-2), σ) else (if (f_X2_isBetween y 1 20) = 0 then ((-3), σ) else (if ((σ 3 0) + y) ≤ 60 then (σ 3 0, (shU (g_X2_buyNew_46 σ x y (tn y + 1) 0 σ) 16 5 (((g_X2_buyNew_46 σ x y (tn y + 1) 0 σ) 16 5) + (y * ((g_X2_buyNew_46 σ x y (tn y + 1) 0 σ) 5 (tn x)))))) else ((-5), σ))))
abbrev rm_X2_buyNew : Room := { frames := 2, cells := 0, slots := 0, locals := 43 }
set_option maxRecDepth 100000 in
theorem c_X2_buyNew (l : Launch) (D : va_G) (cI : ClassId) (o : Nat) (a : Nat → Nat) (σ : Nat → Nat → Int32) (x : Int32) (y : Int32) (hok : okS σ) :
    Met l yX2_buyNew (Cond.code yX2_buyNew cX2_buyNew 5 (some .int) :: W0) rm_X2_buyNew (va_Pc [.ref o, .int x, .int y] (shM D cI o a σ)) (shQ D cI o a (m_X2_buyNew σ x y)) 0 0 (shA o a) := by
  refine st_gen (cc := cX2_buyNew) (maxL := 5) (ret := some .int) (own := RX2) (by decide) rfl (Nat.le_of_ble_eq_true rfl) ?_
  intro p e s m below meth c ls C hPre hl
  obtain ⟨hx, hb, hr, hml, hown, hts, hlk⟩ := C
  obtain ⟨⟨hP, hK⟩, hD⟩ := hPre
  have hS : va_S (shA o a) s.heap s.heap [] := va_S.rf
  have hl : lv_has ls 5 [(0, .ref (o)), (1, .int (x)), (2, .int (y))] := hl
  obtain ⟨hT6, hC6, hN6⟩ := okS_b hok
  refine lv_aload_n hx hb dX2_buyNew_0 rfl (lv_at hl 0 rfl) ?_
  refine lv_iload_n hx hb dX2_buyNew_1 rfl (lv_at hl 1 rfl) ?_
  refine sh_call (rest := []) hx hb hml hown hts hK hP (c_X2_hasTitle l D cI o a σ x) (kV_X2_hasTitle hts ml_X2_90 ⟨(Nat.le_of_ble_eq_true rfl), (Nat.le_of_ble_eq_true rfl)⟩) rfl hl.1 rfl (Nat.le_of_ble_eq_true rfl) dX2_buyNew_2 (Nat.zero_le _) (Nat.zero_le _) ?_
  refine lv_if_ne (tgt := 11) hx hb dX2_buyNew_5 (by decide) (fun c_5 => ?_) (fun c_5 => ?_)
  · have v_5 := hasTitle_ok (σ := σ) (by with_reducible assumption) c_5
    have vb_5 := v_5.1
    refine lv_iload_n hx hb dX2_buyNew_11 rfl (lv_at hl 2 rfl) ?_
    refine lv_iconst (v := 1) hx hb dX2_buyNew_12 (by decide) ?_
    refine lv_bipush (v := 20) hx hb dX2_buyNew_13 (by decide) ?_
    refine cl_S (rest := []) hx hb hml hown hts (c_X2_isBetween l y 1 20) (kS_X2_isBetween hts ml_X2_93 ⟨(Nat.le_of_ble_eq_true rfl), (Nat.le_of_ble_eq_true rfl)⟩) rfl hl.1 rfl (Nat.le_of_ble_eq_true rfl) dX2_buyNew_15 (Nat.zero_le _) (Nat.zero_le _) ?_
    refine lv_if_ne (tgt := 24) hx hb dX2_buyNew_18 (by decide) (fun c_18 => ?_) (fun c_18 => ?_)
    · have v_18 := btwN 20 c_18 (by decide) rfl (by decide)
      have vb_18 := v_18.1
      refine lv_aload_n hx hb dX2_buyNew_24 rfl (lv_at hl 0 rfl) ?_
      refine sh_g3 hx hb hts hown hK hP (v := σ 3 0) rfl dX2_buyNew_25 ?_
      refine lv_iload_n hx hb dX2_buyNew_28 rfl (lv_at hl 2 rfl) ?_
      refine lv_iadd hx hb dX2_buyNew_29 ?_
      refine lv_bipush (v := 60) hx hb dX2_buyNew_30 (by decide) ?_
      refine lv_icmp_le (tgt := 38) hx hb dX2_buyNew_32 (by decide) (fun c_32 => ?_) (fun c_32 => ?_)
      · have hcap : nN σ + tn y ≤ 60 := cap_ok (okS_3 hok) v_18.2 c_32 (by omega) (by omega)
        refine lv_aload_n hx hb dX2_buyNew_38 rfl (lv_at hl 0 rfl) ?_
        refine sh_g3 hx hb hts hown hK hP (v := σ 3 0) rfl dX2_buyNew_39 ?_
        refine lv_istore_n (lv' := [(3, .int (σ 3 0)), (0, .ref (o)), (1, .int (x)), (2, .int (y))]) hx hb dX2_buyNew_42 rfl hl (by decide) rfl (fun ls hl => ?_)
        refine lv_iconst (v := 0) hx hb dX2_buyNew_43 (by decide) ?_
        refine lv_istore (lv' := [(4, .int (0)), (3, .int (σ 3 0)), (0, .ref (o)), (1, .int (x)), (2, .int (y))]) hx hb dX2_buyNew_44 hl (by decide) rfl (fun ls hl => ?_)
        have K_70 : ∀ (H : Heap) (locs : List Loc), va_P D vwCl (shW cI o a (g_X2_buyNew_46 σ x y (tn y + 1) 0 σ)) H → va_S (shA o a) s.heap H locs → ∀ ls, lv_has ls 5 [(3, .int (σ 3 0)), (0, .ref (o)), (1, .int (x)), (2, .int (y))] → W p l e rm_X2_buyNew s m (([.ref (o), .int (x), .int (y)] : List Value).toArray) below meth c H locs 0 0 (MQ below (shQ D cI o a (m_X2_buyNew σ x y)) ([.ref (o), .int (x), .int (y)] : List Value).toArray s 0 0 (shA o a)) (F0 m 70 ls []) := by
          intro H locs hP hS ls hl
          refine lv_aload_n hx hb dX2_buyNew_70 rfl (lv_at hl 1 rfl) ?_
          refine sh_g16 hx hb hts hown hK hP dX2_buyNew_71 ?_
          refine lv_iconst (v := 5) hx hb dX2_buyNew_74 (by decide) ?_
          refine lv_dup2_11 hx hb dX2_buyNew_75 rfl rfl ?_
          refine sh_r16 hx hb hK hP (5) rfl (by omega) (v := (g_X2_buyNew_46 σ x y (tn y + 1) 0 σ) 16 5) rfl dX2_buyNew_76 ?_
          refine lv_iload_n hx hb dX2_buyNew_77 rfl (lv_at hl 3 rfl) ?_
          refine lv_aload_n hx hb dX2_buyNew_78 rfl (lv_at hl 1 rfl) ?_
          refine sh_g5 hx hb hts hown hK hP dX2_buyNew_79 ?_
          refine lv_iload_n hx hb dX2_buyNew_82 rfl (lv_at hl 2 rfl) ?_
          refine sh_r5 hx hb hK hP (tn x) v_5.2 (by omega) (v := (g_X2_buyNew_46 σ x y (tn y + 1) 0 σ) 5 (tn x)) rfl dX2_buyNew_83 ?_
          refine lv_imul hx hb dX2_buyNew_84 ?_
          refine lv_iadd hx hb dX2_buyNew_85 ?_
          refine sh_w16 hx hb hK hP hD hS (5) rfl (by omega) dX2_buyNew_86 (fun H locs hP hS => ?_)
          refine lv_iload_n hx hb dX2_buyNew_87 rfl (lv_at hl 0 rfl) ?_
          exact sh_finM hx hb hr hlk hK hP hS (br_n c_5 (br_n c_18 (br_p c_32 rfl))) dX2_buyNew_88
        have L_46 : ∀ (fu : Nat) (k : Nat) (ω : Nat → Nat → Int32), tn y - k < fu → k ≤ tn y → ω 3 0 = nI (nN σ + k) → g_X2_buyNew_46 σ x y fu k ω = g_X2_buyNew_46 σ x y (tn y + 1) 0 σ → ∀ (H : Heap) (locs : List Loc), va_P D vwCl (shW cI o a ω) H → va_S (shA o a) s.heap H locs → ∀ ls, lv_has ls 5 [(3, .int (σ 3 0)), (0, .ref (o)), (1, .int (x)), (2, .int (y)), (4, .int (nI k))] → W p l e rm_X2_buyNew s m (([.ref (o), .int (x), .int (y)] : List Value).toArray) below meth c H locs 0 0 (MQ below (shQ D cI o a (m_X2_buyNew σ x y)) ([.ref (o), .int (x), .int (y)] : List Value).toArray s 0 0 (shA o a)) (F0 m 46 ls []) := by
          intro fu
          induction fu with
          | zero => intro k ω hm; exact absurd hm (Nat.not_lt_zero _)
          | succ fu ih =>
            intro k ω hm hky hc hg_46 H locs hP hS ls hl
            refine lv_iload hx hb dX2_buyNew_46 (lv_at hl 4 rfl) ?_
            refine lv_iload_n hx hb dX2_buyNew_48 rfl (lv_at hl 3 rfl) ?_
            refine lv_icmp_geN (k) (tn y) hx hb rfl v_18.2 (by omega) (by omega) (tgt := 70) dX2_buyNew_49 (by decide) (fun c_49 => ?_) (fun c_49 => ?_)
            · have ex : ω = g_X2_buyNew_46 σ x y (tn y + 1) 0 σ := ((br_p c_49 rfl) : ω = g_X2_buyNew_46 σ x y (fu + 1) k ω).trans hg_46
              exact K_70 _ _ (by rw [← ex]; exact hP) hS ls (lv_sub hl [0, 1, 2, 3] rfl)
            refine lv_aload_n hx hb dX2_buyNew_52 rfl (lv_at hl 1 rfl) ?_
            refine lv_iload_n hx hb dX2_buyNew_53 rfl (lv_at hl 2 rfl) ?_
            refine lv_aload_n hx hb dX2_buyNew_54 rfl (lv_at hl 1 rfl) ?_
            refine sh_g6 hx hb hts hown hK hP dX2_buyNew_55 ?_
            refine lv_iload_n hx hb dX2_buyNew_58 rfl (lv_at hl 2 rfl) ?_
            refine sh_r6 hx hb hK hP (tn x) v_5.2 (by omega) (v := ω 6 (tn x)) rfl dX2_buyNew_59 ?_
            refine lv_iconst (v := 0) hx hb dX2_buyNew_60 (by decide) ?_
            refine sh_callV (rest := []) hx hb hml hown hts hK hP hD hS (c_X2_putCopy l D cI o a ω x (ω 6 (tn x)) 0 (by first | exact okS_3 (by with_reducible assumption) | (rw [hc, tn_nI (by omega)])) (by first | (show nN _ < 60; omega) | (rw [hc, tn_nI (by omega)]; omega))) (kV_X2_putCopy hts ml_X2_157 ⟨(Nat.le_of_ble_eq_true rfl), (Nat.le_of_ble_eq_true rfl)⟩) rfl hl.1 rfl (Nat.le_of_ble_eq_true rfl) dX2_buyNew_61 (Nat.zero_le _) (Nat.zero_le _) (fun H locs hP hS => ?_)
            refine lv_iinc (v := nI (k + 1)) (lv' := [(4, .int (nI (k + 1))), (3, .int (σ 3 0)), (0, .ref (o)), (1, .int (x)), (2, .int (y))]) hx hb dX2_buyNew_64 hl (k := 4) rfl (nI_c1 _) (by decide) rfl (fun ls hl => ?_)
            refine lv_goto (tgt := 46) hx hb dX2_buyNew_67 (by decide) ?_
            exact ih (k + 1) (s_X2_putCopy ω x (ω 6 (tn x)) 0) (by omega) (by omega) (by show ω 3 0 + 1 = _; rw [hc, nI_1, Nat.add_assoc]) (((br_n c_49 rfl) : g_X2_buyNew_46 σ x y fu (k + 1) (s_X2_putCopy ω x (ω 6 (tn x)) 0) = g_X2_buyNew_46 σ x y (fu + 1) k ω).trans hg_46) _ _ hP hS ls (lv_sub hl [1, 2, 3, 4, 0] rfl)
        exact L_46 (tn y + 1) 0 σ (by omega) (by omega) (okS_3 hok) rfl _ _ hP hS ls (lv_sub hl [1, 2, 3, 4, 0] rfl)
      refine lv_bipush (v := (-5)) hx hb dX2_buyNew_35 (by decide) ?_
      exact sh_finM hx hb hr hlk hK hP hS (br_n c_5 (br_n c_18 (br_n c_32 rfl))) dX2_buyNew_37
    refine lv_bipush (v := (-3)) hx hb dX2_buyNew_21 (by decide) ?_
    exact sh_finM hx hb hr hlk hK hP hS (br_n c_5 (br_p c_18 rfl)) dX2_buyNew_23
  refine lv_bipush (v := (-2)) hx hb dX2_buyNew_8 (by decide) ?_
  exact sh_finM hx hb hr hlk hK hP hS (br_p c_5 rfl) dX2_buyNew_10
theorem kV_X2_buyNew {R : Room} {s : State} {args : Array Value} {own : String} {idx : Nat} {c0 : Cond} (hts : ∀ w ∈ c0 :: W0, w.before args s = true) (hl : Cond.methodLink own idx yX2_buyNew ∈ W0) (hR : rm_X2_buyNew.frames + 1 ≤ R.frames ∧ 8 + (5 + 11) + rm_X2_buyNew.locals ≤ R.locals) : CallW R s args own RX2 idx yX2_buyNew cX2_buyNew 5 (some .int) (Cond.code yX2_buyNew cX2_buyNew 5 (some .int) :: W0) rm_X2_buyNew 0 0 2 := cwV 2 hts (gdV hl mi_yX2_buyNew ms_yX2_buyNew mini_X2 mc_yX2_buyNew) rfl rfl rfl (by decide +kernel) hR

/-! X2.buyUsed -/
def m_X2_buyUsed (σ : Nat → Nat → Int32) (x : Int32) (y : Int32) (z : Int32) : Int32 × (Nat → Nat → Int32) := (if 0 ≤ (f_X2_offerFor σ x y z) then (if (f_X2_offerFor σ x y z) = 0 then ((-4), σ) else (if nN σ < 60 then (((s_X2_putCopy σ x y z) 3 0) - 1, (shU (s_X2_putCopy σ x y z) 16 6 (((s_X2_putCopy σ x y z) 16 6) + (f_X2_offerFor σ x y z)))) else ((-5), σ))) else ((f_X2_offerFor σ x y z), σ))
abbrev rm_X2_buyUsed : Room := { frames := 4, cells := 0, slots := 0, locals := 94 }
set_option maxRecDepth 100000 in
theorem c_X2_buyUsed (l : Launch) (D : va_G) (cI : ClassId) (o : Nat) (a : Nat → Nat) (σ : Nat → Nat → Int32) (x : Int32) (y : Int32) (z : Int32) (hok : okS σ) :
    Met l yX2_buyUsed (Cond.code yX2_buyUsed cX2_buyUsed 5 (some .int) :: W0) rm_X2_buyUsed (va_Pc [.ref o, .int x, .int y, .int z] (shM D cI o a σ)) (shQ D cI o a (m_X2_buyUsed σ x y z)) 0 0 (shA o a) := by
  refine st_gen (cc := cX2_buyUsed) (maxL := 5) (ret := some .int) (own := RX2) (by decide) rfl (Nat.le_of_ble_eq_true rfl) ?_
  intro p e s m below meth c ls C hPre hl
  obtain ⟨hx, hb, hr, hml, hown, hts, hlk⟩ := C
  obtain ⟨⟨hP, hK⟩, hD⟩ := hPre
  have hS : va_S (shA o a) s.heap s.heap [] := va_S.rf
  have hl : lv_has ls 5 [(0, .ref (o)), (1, .int (x)), (2, .int (y)), (3, .int (z))] := hl
  obtain ⟨hT6, hC6, hN6⟩ := okS_b hok
  refine lv_aload_n hx hb dX2_buyUsed_0 rfl (lv_at hl 0 rfl) ?_
  refine lv_iload_n hx hb dX2_buyUsed_1 rfl (lv_at hl 1 rfl) ?_
  refine lv_iload_n hx hb dX2_buyUsed_2 rfl (lv_at hl 2 rfl) ?_
  refine lv_iload_n hx hb dX2_buyUsed_3 rfl (lv_at hl 3 rfl) ?_
  refine sh_call (rest := []) hx hb hml hown hts hK hP (c_X2_offerFor l D cI o a σ x y z (by with_reducible assumption)) (kV_X2_offerFor hts ml_X2_168 ⟨(Nat.le_of_ble_eq_true rfl), (Nat.le_of_ble_eq_true rfl)⟩) rfl hl.1 rfl (Nat.le_of_ble_eq_true rfl) dX2_buyUsed_4 (Nat.zero_le _) (Nat.zero_le _) ?_
  refine lv_istore (lv' := [(4, .int ((f_X2_offerFor σ x y z))), (0, .ref (o)), (1, .int (x)), (2, .int (y)), (3, .int (z))]) hx hb dX2_buyUsed_7 hl (by decide) rfl (fun ls hl => ?_)
  refine lv_iload hx hb dX2_buyUsed_9 (lv_at hl 0 rfl) ?_
  refine lv_if_ge (tgt := 17) hx hb dX2_buyUsed_11 (by decide) (fun c_11 => ?_) (fun c_11 => ?_)
  · refine lv_iload hx hb dX2_buyUsed_17 (lv_at hl 0 rfl) ?_
    refine lv_if_ne (tgt := 25) hx hb dX2_buyUsed_19 (by decide) (fun c_19 => ?_) (fun c_19 => ?_)
    · refine lv_aload_n hx hb dX2_buyUsed_25 rfl (lv_at hl 1 rfl) ?_
      refine sh_g3 hx hb hts hown hK hP (v := σ 3 0) rfl dX2_buyUsed_26 ?_
      refine lv_bipush (v := 60) hx hb dX2_buyUsed_29 (by decide) ?_
      refine lv_icmp_ltN (nN σ) (60) hx hb (okS_3 (σ := σ) (by with_reducible assumption)) rfl (by omega) (by omega) (tgt := 37) dX2_buyUsed_31 (by decide) (fun c_31 => ?_) (fun c_31 => ?_)
      · refine lv_aload_n hx hb dX2_buyUsed_37 rfl (lv_at hl 1 rfl) ?_
        refine lv_iload_n hx hb dX2_buyUsed_38 rfl (lv_at hl 2 rfl) ?_
        refine lv_iload_n hx hb dX2_buyUsed_39 rfl (lv_at hl 3 rfl) ?_
        refine lv_iload_n hx hb dX2_buyUsed_40 rfl (lv_at hl 4 rfl) ?_
        refine sh_callV (rest := []) hx hb hml hown hts hK hP hD hS (c_X2_putCopy l D cI o a σ x y z (by first | exact okS_3 (by with_reducible assumption) | (rw [hc, tn_nI (by omega)])) (by first | (show nN _ < 60; omega) | (rw [hc, tn_nI (by omega)]; omega))) (kV_X2_putCopy hts ml_X2_157 ⟨(Nat.le_of_ble_eq_true rfl), (Nat.le_of_ble_eq_true rfl)⟩) rfl hl.1 rfl (Nat.le_of_ble_eq_true rfl) dX2_buyUsed_41 (Nat.zero_le _) (Nat.zero_le _) (fun H locs hP hS => ?_)
        refine lv_aload_n hx hb dX2_buyUsed_44 rfl (lv_at hl 1 rfl) ?_
        refine sh_g16 hx hb hts hown hK hP dX2_buyUsed_45 ?_
        refine lv_bipush (v := 6) hx hb dX2_buyUsed_48 (by decide) ?_
        refine lv_dup2_11 hx hb dX2_buyUsed_50 rfl rfl ?_
        refine sh_r16 hx hb hK hP (6) rfl (by omega) (v := (s_X2_putCopy σ x y z) 16 6) rfl dX2_buyUsed_51 ?_
        refine lv_iload hx hb dX2_buyUsed_52 (lv_at hl 0 rfl) ?_
        refine lv_iadd hx hb dX2_buyUsed_54 ?_
        refine sh_w16 hx hb hK hP hD hS (6) rfl (by omega) dX2_buyUsed_55 (fun H locs hP hS => ?_)
        refine lv_aload_n hx hb dX2_buyUsed_56 rfl (lv_at hl 1 rfl) ?_
        refine sh_g3 hx hb hts hown hK hP (v := (s_X2_putCopy σ x y z) 3 0) (congrFun (shU_f (σ := (s_X2_putCopy σ x y z)) (f := 16) (f' := 3) (by decide)) 0) dX2_buyUsed_57 ?_
        refine lv_iconst (v := 1) hx hb dX2_buyUsed_60 (by decide) ?_
        refine lv_isub hx hb dX2_buyUsed_61 ?_
        exact sh_finM hx hb hr hlk hK hP hS (br_p c_11 (br_n c_19 (br_p c_31 rfl))) dX2_buyUsed_62
      refine lv_bipush (v := (-5)) hx hb dX2_buyUsed_34 (by decide) ?_
      exact sh_finM hx hb hr hlk hK hP hS (br_p c_11 (br_n c_19 (br_n c_31 rfl))) dX2_buyUsed_36
    refine lv_bipush (v := (-4)) hx hb dX2_buyUsed_22 (by decide) ?_
    exact sh_finM hx hb hr hlk hK hP hS (br_p c_11 (br_p c_19 rfl)) dX2_buyUsed_24
  refine lv_iload hx hb dX2_buyUsed_14 (lv_at hl 0 rfl) ?_
  exact sh_finM hx hb hr hlk hK hP hS (br_n c_11 rfl) dX2_buyUsed_16
theorem kV_X2_buyUsed {R : Room} {s : State} {args : Array Value} {own : String} {idx : Nat} {c0 : Cond} (hts : ∀ w ∈ c0 :: W0, w.before args s = true) (hl : Cond.methodLink own idx yX2_buyUsed ∈ W0) (hR : rm_X2_buyUsed.frames + 1 ≤ R.frames ∧ 8 + (5 + 11) + rm_X2_buyUsed.locals ≤ R.locals) : CallW R s args own RX2 idx yX2_buyUsed cX2_buyUsed 5 (some .int) (Cond.code yX2_buyUsed cX2_buyUsed 5 (some .int) :: W0) rm_X2_buyUsed 0 0 3 := cwV 3 hts (gdV hl mi_yX2_buyUsed ms_yX2_buyUsed mini_X2 mc_yX2_buyUsed) rfl rfl rfl (by decide +kernel) hR

/-! X2.sellCopy -/
def m_X2_sellCopy (σ : Nat → Nat → Int32) (x : Int32) : Int32 × (Nat → Nat → Int32) := (if (f_X2_hasCopy σ x) = 0 then ((-2), σ) else (if (σ 13 (tn x)) = 0 then ((f_X2_saleCost σ (tn x)), (shU (shU σ 13 (tn x) 2) 16 4 ((σ 16 4) + (f_X2_saleCost σ (tn x))))) else ((-4), σ)))
abbrev rm_X2_sellCopy : Room := { frames := 4, cells := 0, slots := 0, locals := 91 }
set_option maxRecDepth 100000 in
theorem c_X2_sellCopy (l : Launch) (D : va_G) (cI : ClassId) (o : Nat) (a : Nat → Nat) (σ : Nat → Nat → Int32) (x : Int32) (hok : okS σ) :
    Met l yX2_sellCopy (Cond.code yX2_sellCopy cX2_sellCopy 3 (some .int) :: W0) rm_X2_sellCopy (va_Pc [.ref o, .int x] (shM D cI o a σ)) (shQ D cI o a (m_X2_sellCopy σ x)) 0 0 (shA o a) := by
  refine st_gen (cc := cX2_sellCopy) (maxL := 3) (ret := some .int) (own := RX2) (by decide) rfl (Nat.le_of_ble_eq_true rfl) ?_
  intro p e s m below meth c ls C hPre hl
  obtain ⟨hx, hb, hr, hml, hown, hts, hlk⟩ := C
  obtain ⟨⟨hP, hK⟩, hD⟩ := hPre
  have hS : va_S (shA o a) s.heap s.heap [] := va_S.rf
  have hl : lv_has ls 3 [(0, .ref (o)), (1, .int (x))] := hl
  obtain ⟨hT6, hC6, hN6⟩ := okS_b hok
  refine lv_aload_n hx hb dX2_sellCopy_0 rfl (lv_at hl 0 rfl) ?_
  refine lv_iload_n hx hb dX2_sellCopy_1 rfl (lv_at hl 1 rfl) ?_
  refine sh_call (rest := []) hx hb hml hown hts hK hP (c_X2_hasCopy l D cI o a σ x) (kV_X2_hasCopy hts ml_X2_128 ⟨(Nat.le_of_ble_eq_true rfl), (Nat.le_of_ble_eq_true rfl)⟩) rfl hl.1 rfl (Nat.le_of_ble_eq_true rfl) dX2_sellCopy_2 (Nat.zero_le _) (Nat.zero_le _) ?_
  refine lv_if_ne (tgt := 11) hx hb dX2_sellCopy_5 (by decide) (fun c_5 => ?_) (fun c_5 => ?_)
  · have v_5 := hasCopy_ok (σ := σ) (by with_reducible assumption) c_5
    have vb_5 := v_5.1
    refine lv_aload_n hx hb dX2_sellCopy_11 rfl (lv_at hl 0 rfl) ?_
    refine sh_g13 hx hb hts hown hK hP dX2_sellCopy_12 ?_
    refine lv_iload_n hx hb dX2_sellCopy_15 rfl (lv_at hl 1 rfl) ?_
    refine sh_r13 hx hb hK hP (tn x) v_5.2 (by omega) (v := σ 13 (tn x)) rfl dX2_sellCopy_16 ?_
    refine lv_if_eq (tgt := 23) hx hb dX2_sellCopy_17 (by decide) (fun c_17 => ?_) (fun c_17 => ?_)
    · refine lv_aload_n hx hb dX2_sellCopy_23 rfl (lv_at hl 0 rfl) ?_
      refine lv_iload_n hx hb dX2_sellCopy_24 rfl (lv_at hl 1 rfl) ?_
      refine sh_call (rest := []) hx hb hml hown hts hK hP (c_X2_saleCost l D cI o a σ x (tn x) v_5.2 (by with_reducible assumption) (by first | with_reducible assumption | omega)) (kV_X2_saleCost hts ml_X2_137 ⟨(Nat.le_of_ble_eq_true rfl), (Nat.le_of_ble_eq_true rfl)⟩) rfl hl.1 rfl (Nat.le_of_ble_eq_true rfl) dX2_sellCopy_25 (Nat.zero_le _) (Nat.zero_le _) ?_
      refine lv_istore_n (lv' := [(2, .int ((f_X2_saleCost σ (tn x)))), (0, .ref (o)), (1, .int (x))]) hx hb dX2_sellCopy_28 rfl hl (by decide) rfl (fun ls hl => ?_)
      refine lv_aload_n hx hb dX2_sellCopy_29 rfl (lv_at hl 1 rfl) ?_
      refine sh_g13 hx hb hts hown hK hP dX2_sellCopy_30 ?_
      refine lv_iload_n hx hb dX2_sellCopy_33 rfl (lv_at hl 2 rfl) ?_
      refine lv_iconst (v := 2) hx hb dX2_sellCopy_34 (by decide) ?_
      refine sh_w13 hx hb hK hP hD hS (tn x) v_5.2 (by omega) dX2_sellCopy_35 (fun H locs hP hS => ?_)
      refine lv_aload_n hx hb dX2_sellCopy_36 rfl (lv_at hl 1 rfl) ?_
      refine sh_g16 hx hb hts hown hK hP dX2_sellCopy_37 ?_
      refine lv_iconst (v := 4) hx hb dX2_sellCopy_40 (by decide) ?_
      refine lv_dup2_11 hx hb dX2_sellCopy_41 rfl rfl ?_
      refine sh_r16 hx hb hK hP (4) rfl (by omega) (v := σ 16 4) rfl dX2_sellCopy_42 ?_
      refine lv_iload_n hx hb dX2_sellCopy_43 rfl (lv_at hl 0 rfl) ?_
      refine lv_iadd hx hb dX2_sellCopy_44 ?_
      refine sh_w16 hx hb hK hP hD hS (4) rfl (by omega) dX2_sellCopy_45 (fun H locs hP hS => ?_)
      refine lv_iload_n hx hb dX2_sellCopy_46 rfl (lv_at hl 0 rfl) ?_
      exact sh_finM hx hb hr hlk hK hP hS (br_n c_5 (br_p c_17 rfl)) dX2_sellCopy_47
    refine lv_bipush (v := (-4)) hx hb dX2_sellCopy_20 (by decide) ?_
    exact sh_finM hx hb hr hlk hK hP hS (br_n c_5 (br_n c_17 rfl)) dX2_sellCopy_22
  refine lv_bipush (v := (-2)) hx hb dX2_sellCopy_8 (by decide) ?_
  exact sh_finM hx hb hr hlk hK hP hS (br_p c_5 rfl) dX2_sellCopy_10
theorem kV_X2_sellCopy {R : Room} {s : State} {args : Array Value} {own : String} {idx : Nat} {c0 : Cond} (hts : ∀ w ∈ c0 :: W0, w.before args s = true) (hl : Cond.methodLink own idx yX2_sellCopy ∈ W0) (hR : rm_X2_sellCopy.frames + 1 ≤ R.frames ∧ 8 + (3 + 11) + rm_X2_sellCopy.locals ≤ R.locals) : CallW R s args own RX2 idx yX2_sellCopy cX2_sellCopy 3 (some .int) (Cond.code yX2_sellCopy cX2_sellCopy 3 (some .int) :: W0) rm_X2_sellCopy 0 0 1 := cwV 1 hts (gdV hl mi_yX2_sellCopy ms_yX2_sellCopy mini_X2 mc_yX2_sellCopy) rfl rfl rfl (by decide +kernel) hR

/-! X2.rentCopy -/
def m_X2_rentCopy (σ : Nat → Nat → Int32) (x : Int32) (y : Int32) : Int32 × (Nat → Nat → Int32) := (if (f_X2_hasCustomer x) = 0 then ((-2), σ) else (if (f_X2_hasCourse σ y) = 0 then ((-2), σ) else (if (f_X2_bestFor σ (tn y)) = (-1) then ((-4), σ) else (if (f_X2_canRent σ x (σ 7 (tn y))) = 0 then ((-4), σ) else ((f_X2_bestFor σ (tn y)), (shU (shU (shU (shU (shU σ 13 (tn (f_X2_bestFor σ (tn y))) 1) 14 (tn (f_X2_bestFor σ (tn y))) x) 15 (tn (f_X2_bestFor σ (tn y))) ((σ 0 0) + (σ 4 0))) 16 0 ((σ 16 0) + (f_X2_rentCost σ (tn (f_X2_bestFor σ (tn y)))))) 17 (tn x) ((σ 17 (tn x)) + (f_X2_rentCost σ (tn (f_X2_bestFor σ (tn y)))))))))))
abbrev rm_X2_rentCopy : Room := { frames := 4, cells := 0, slots := 0, locals := 91 }
set_option maxRecDepth 100000 in
theorem c_X2_rentCopy (l : Launch) (D : va_G) (cI : ClassId) (o : Nat) (a : Nat → Nat) (σ : Nat → Nat → Int32) (x : Int32) (y : Int32) (hok : okS σ) :
    Met l yX2_rentCopy (Cond.code yX2_rentCopy cX2_rentCopy 5 (some .int) :: W0) rm_X2_rentCopy (va_Pc [.ref o, .int x, .int y] (shM D cI o a σ)) (shQ D cI o a (m_X2_rentCopy σ x y)) 0 0 (shA o a) := by
  refine st_gen (cc := cX2_rentCopy) (maxL := 5) (ret := some .int) (own := RX2) (by decide) rfl (Nat.le_of_ble_eq_true rfl) ?_
  intro p e s m below meth c ls C hPre hl
  obtain ⟨hx, hb, hr, hml, hown, hts, hlk⟩ := C
  obtain ⟨⟨hP, hK⟩, hD⟩ := hPre
  have hS : va_S (shA o a) s.heap s.heap [] := va_S.rf
  have hl : lv_has ls 5 [(0, .ref (o)), (1, .int (x)), (2, .int (y))] := hl
  obtain ⟨hT6, hC6, hN6⟩ := okS_b hok
  refine lv_iload_n hx hb dX2_rentCopy_0 rfl (lv_at hl 1 rfl) ?_
  refine cl_S (rest := []) hx hb hml hown hts (c_X2_hasCustomer l x) (kS_X2_hasCustomer hts ml_X2_148 ⟨(Nat.le_of_ble_eq_true rfl), (Nat.le_of_ble_eq_true rfl)⟩) rfl hl.1 rfl (Nat.le_of_ble_eq_true rfl) dX2_rentCopy_1 (Nat.zero_le _) (Nat.zero_le _) ?_
  refine lv_if_eq (tgt := 15) hx hb dX2_rentCopy_4 (by decide) (fun c_4 => ?_) (fun c_4 => ?_)
  · refine lv_bipush (v := (-2)) hx hb dX2_rentCopy_15 (by decide) ?_
    exact sh_finM hx hb hr hlk hK hP hS (br_p c_4 rfl) dX2_rentCopy_17
  have v_4 := hasCustomer_ok c_4
  have vb_4 := v_4.1
  refine lv_aload_n hx hb dX2_rentCopy_7 rfl (lv_at hl 0 rfl) ?_
  refine lv_iload_n hx hb dX2_rentCopy_8 rfl (lv_at hl 2 rfl) ?_
  refine sh_call (rest := []) hx hb hml hown hts hK hP (c_X2_hasCourse l D cI o a σ y) (kV_X2_hasCourse hts ml_X2_97 ⟨(Nat.le_of_ble_eq_true rfl), (Nat.le_of_ble_eq_true rfl)⟩) rfl hl.1 rfl (Nat.le_of_ble_eq_true rfl) dX2_rentCopy_9 (Nat.zero_le _) (Nat.zero_le _) ?_
  refine lv_if_ne (tgt := 18) hx hb dX2_rentCopy_12 (by decide) (fun c_12 => ?_) (fun c_12 => ?_)
  · have v_12 := hasCourse_ok (σ := σ) (by with_reducible assumption) c_12
    have vb_12 := v_12.1
    refine lv_aload_n hx hb dX2_rentCopy_18 rfl (lv_at hl 0 rfl) ?_
    refine lv_iload_n hx hb dX2_rentCopy_19 rfl (lv_at hl 2 rfl) ?_
    refine sh_call (rest := []) hx hb hml hown hts hK hP (c_X2_bestFor l D cI o a σ y (tn y) v_12.2 (by with_reducible assumption) (by first | with_reducible assumption | omega)) (kV_X2_bestFor hts ml_X2_172 ⟨(Nat.le_of_ble_eq_true rfl), (Nat.le_of_ble_eq_true rfl)⟩) rfl hl.1 rfl (Nat.le_of_ble_eq_true rfl) dX2_rentCopy_20 (Nat.zero_le _) (Nat.zero_le _) ?_
    refine lv_istore_n (lv' := [(3, .int ((f_X2_bestFor σ (tn y)))), (0, .ref (o)), (1, .int (x)), (2, .int (y))]) hx hb dX2_rentCopy_23 rfl hl (by decide) rfl (fun ls hl => ?_)
    refine lv_iload_n hx hb dX2_rentCopy_24 rfl (lv_at hl 0 rfl) ?_
    refine lv_iconst (v := (-1)) hx hb dX2_rentCopy_25 (by decide) ?_
    refine lv_icmp_eq (tgt := 43) hx hb dX2_rentCopy_26 (by decide) (fun c_26 => ?_) (fun c_26 => ?_)
    · refine lv_bipush (v := (-4)) hx hb dX2_rentCopy_43 (by decide) ?_
      exact sh_finM hx hb hr hlk hK hP hS (br_n c_4 (br_n c_12 (br_p c_26 rfl))) dX2_rentCopy_45
    have hbc := (bestFor_ok hok (tn y)).resolve_left c_26
    have hbd := hbc.1
    refine lv_aload_n hx hb dX2_rentCopy_29 rfl (lv_at hl 1 rfl) ?_
    refine lv_iload_n hx hb dX2_rentCopy_30 rfl (lv_at hl 2 rfl) ?_
    refine lv_aload_n hx hb dX2_rentCopy_31 rfl (lv_at hl 1 rfl) ?_
    refine sh_g7 hx hb hts hown hK hP dX2_rentCopy_32 ?_
    refine lv_iload_n hx hb dX2_rentCopy_35 rfl (lv_at hl 3 rfl) ?_
    refine sh_r7 hx hb hK hP (tn y) v_12.2 (by omega) (v := σ 7 (tn y)) rfl dX2_rentCopy_36 ?_
    refine sh_call (rest := []) hx hb hml hown hts hK hP (c_X2_canRent l D cI o a σ x (σ 7 (tn y)) (by with_reducible assumption)) (kV_X2_canRent hts ml_X2_175 ⟨(Nat.le_of_ble_eq_true rfl), (Nat.le_of_ble_eq_true rfl)⟩) rfl hl.1 rfl (Nat.le_of_ble_eq_true rfl) dX2_rentCopy_37 (Nat.zero_le _) (Nat.zero_le _) ?_
    refine lv_if_ne (tgt := 46) hx hb dX2_rentCopy_40 (by decide) (fun c_40 => ?_) (fun c_40 => ?_)
    · refine lv_aload_n hx hb dX2_rentCopy_46 rfl (lv_at hl 1 rfl) ?_
      refine lv_iload_n hx hb dX2_rentCopy_47 rfl (lv_at hl 0 rfl) ?_
      refine sh_call (rest := []) hx hb hml hown hts hK hP (c_X2_rentCost l D cI o a σ (f_X2_bestFor σ (tn y)) (tn (f_X2_bestFor σ (tn y))) hbc.2 (by with_reducible assumption) (by first | with_reducible assumption | omega)) (kV_X2_rentCost hts ml_X2_134 ⟨(Nat.le_of_ble_eq_true rfl), (Nat.le_of_ble_eq_true rfl)⟩) rfl hl.1 rfl (Nat.le_of_ble_eq_true rfl) dX2_rentCopy_48 (Nat.zero_le _) (Nat.zero_le _) ?_
      refine lv_istore (lv' := [(4, .int ((f_X2_rentCost σ (tn (f_X2_bestFor σ (tn y)))))), (3, .int ((f_X2_bestFor σ (tn y)))), (0, .ref (o)), (1, .int (x)), (2, .int (y))]) hx hb dX2_rentCopy_51 hl (by decide) rfl (fun ls hl => ?_)
      refine lv_aload_n hx hb dX2_rentCopy_53 rfl (lv_at hl 2 rfl) ?_
      refine sh_g13 hx hb hts hown hK hP dX2_rentCopy_54 ?_
      refine lv_iload_n hx hb dX2_rentCopy_57 rfl (lv_at hl 1 rfl) ?_
      refine lv_iconst (v := 1) hx hb dX2_rentCopy_58 (by decide) ?_
      refine sh_w13 hx hb hK hP hD hS (tn (f_X2_bestFor σ (tn y))) hbc.2 (by omega) dX2_rentCopy_59 (fun H locs hP hS => ?_)
      refine lv_aload_n hx hb dX2_rentCopy_60 rfl (lv_at hl 2 rfl) ?_
      refine sh_g14 hx hb hts hown hK hP dX2_rentCopy_61 ?_
      refine lv_iload_n hx hb dX2_rentCopy_64 rfl (lv_at hl 1 rfl) ?_
      refine lv_iload_n hx hb dX2_rentCopy_65 rfl (lv_at hl 3 rfl) ?_
      refine sh_w14 hx hb hK hP hD hS (tn (f_X2_bestFor σ (tn y))) hbc.2 (by omega) dX2_rentCopy_66 (fun H locs hP hS => ?_)
      refine lv_aload_n hx hb dX2_rentCopy_67 rfl (lv_at hl 2 rfl) ?_
      refine sh_g15 hx hb hts hown hK hP dX2_rentCopy_68 ?_
      refine lv_iload_n hx hb dX2_rentCopy_71 rfl (lv_at hl 1 rfl) ?_
      refine lv_aload_n hx hb dX2_rentCopy_72 rfl (lv_at hl 2 rfl) ?_
      refine sh_g0 hx hb hts hown hK hP (v := σ 0 0) rfl dX2_rentCopy_73 ?_
      refine lv_aload_n hx hb dX2_rentCopy_76 rfl (lv_at hl 2 rfl) ?_
      refine sh_g4 hx hb hts hown hK hP dX2_rentCopy_77 ?_
      refine lv_iconst (v := 0) hx hb dX2_rentCopy_80 (by decide) ?_
      refine sh_r4 hx hb hK hP (0) rfl (by omega) (v := σ 4 0) rfl dX2_rentCopy_81 ?_
      refine lv_iadd hx hb dX2_rentCopy_82 ?_
      refine sh_w15 hx hb hK hP hD hS (tn (f_X2_bestFor σ (tn y))) hbc.2 (by omega) dX2_rentCopy_83 (fun H locs hP hS => ?_)
      refine lv_aload_n hx hb dX2_rentCopy_84 rfl (lv_at hl 2 rfl) ?_
      refine sh_g16 hx hb hts hown hK hP dX2_rentCopy_85 ?_
      refine lv_iconst (v := 0) hx hb dX2_rentCopy_88 (by decide) ?_
      refine lv_dup2_11 hx hb dX2_rentCopy_89 rfl rfl ?_
      refine sh_r16 hx hb hK hP (0) rfl (by omega) (v := σ 16 0) rfl dX2_rentCopy_90 ?_
      refine lv_iload hx hb dX2_rentCopy_91 (lv_at hl 0 rfl) ?_
      refine lv_iadd hx hb dX2_rentCopy_93 ?_
      refine sh_w16 hx hb hK hP hD hS (0) rfl (by omega) dX2_rentCopy_94 (fun H locs hP hS => ?_)
      refine lv_aload_n hx hb dX2_rentCopy_95 rfl (lv_at hl 2 rfl) ?_
      refine sh_g17 hx hb hts hown hK hP dX2_rentCopy_96 ?_
      refine lv_iload_n hx hb dX2_rentCopy_99 rfl (lv_at hl 3 rfl) ?_
      refine lv_dup2_11 hx hb dX2_rentCopy_100 rfl rfl ?_
      refine sh_r17 hx hb hK hP (tn x) v_4.2 (by omega) (v := σ 17 (tn x)) rfl dX2_rentCopy_101 ?_
      refine lv_iload hx hb dX2_rentCopy_102 (lv_at hl 0 rfl) ?_
      refine lv_iadd hx hb dX2_rentCopy_104 ?_
      refine sh_w17 hx hb hK hP hD hS (tn x) v_4.2 (by omega) dX2_rentCopy_105 (fun H locs hP hS => ?_)
      refine lv_iload_n hx hb dX2_rentCopy_106 rfl (lv_at hl 1 rfl) ?_
      exact sh_finM hx hb hr hlk hK hP hS (br_n c_4 (br_n c_12 (br_n c_26 (br_n c_40 rfl)))) dX2_rentCopy_107
    refine lv_bipush (v := (-4)) hx hb dX2_rentCopy_43 (by decide) ?_
    exact sh_finM hx hb hr hlk hK hP hS (br_n c_4 (br_n c_12 (br_n c_26 (br_p c_40 rfl)))) dX2_rentCopy_45
  refine lv_bipush (v := (-2)) hx hb dX2_rentCopy_15 (by decide) ?_
  exact sh_finM hx hb hr hlk hK hP hS (br_n c_4 (br_p c_12 rfl)) dX2_rentCopy_17
theorem kV_X2_rentCopy {R : Room} {s : State} {args : Array Value} {own : String} {idx : Nat} {c0 : Cond} (hts : ∀ w ∈ c0 :: W0, w.before args s = true) (hl : Cond.methodLink own idx yX2_rentCopy ∈ W0) (hR : rm_X2_rentCopy.frames + 1 ≤ R.frames ∧ 8 + (5 + 11) + rm_X2_rentCopy.locals ≤ R.locals) : CallW R s args own RX2 idx yX2_rentCopy cX2_rentCopy 5 (some .int) (Cond.code yX2_rentCopy cX2_rentCopy 5 (some .int) :: W0) rm_X2_rentCopy 0 0 2 := cwV 2 hts (gdV hl mi_yX2_rentCopy ms_yX2_rentCopy mini_X2 mc_yX2_rentCopy) rfl rfl rfl (by decide +kernel) hR

/-! X2.takeBack -/
def m_X2_takeBack (σ : Nat → Nat → Int32) (x : Int32) (y : Int32) : Int32 × (Nat → Nat → Int32) := (if (f_X2_hasCopy σ x) = 0 then ((-2), σ) else (if (f_X2_isGrade y) = 0 then ((-3), σ) else (if (σ 13 (tn x)) = 1 then (if (f_X2_isRuinedBy σ (tn x) y) = 0 then ((f_X2_lateCharge σ (tn x)) + (f_X2_damageCharge σ (tn x) y), (shU (shU (shU (shU (shU σ 13 (tn x) 0) 12 (tn x) ((σ 12 (tn x)) + y)) 16 2 ((σ 16 2) + (f_X2_damageCharge σ (tn x) y))) 16 1 ((σ 16 1) + (f_X2_lateCharge σ (tn x)))) 17 (rOf σ (tn x)) ((σ 17 (rOf σ (tn x))) + ((f_X2_lateCharge σ (tn x)) + (f_X2_damageCharge σ (tn x) y))))) else ((f_X2_lateCharge σ (tn x)) + (f_X2_damageCharge σ (tn x) y), (shU (shU (shU (shU σ 13 (tn x) 3) 16 3 ((σ 16 3) + (f_X2_damageCharge σ (tn x) y))) 16 1 ((σ 16 1) + (f_X2_lateCharge σ (tn x)))) 17 (rOf σ (tn x)) ((σ 17 (rOf σ (tn x))) + ((f_X2_lateCharge σ (tn x)) + (f_X2_damageCharge σ (tn x) y)))))) else ((-4), σ))))
abbrev rm_X2_takeBack : Room := { frames := 4, cells := 0, slots := 0, locals := 93 }
set_option maxRecDepth 100000 in
theorem c_X2_takeBack (l : Launch) (D : va_G) (cI : ClassId) (o : Nat) (a : Nat → Nat) (σ : Nat → Nat → Int32) (x : Int32) (y : Int32) (hok : okS σ) :
    Met l yX2_takeBack (Cond.code yX2_takeBack cX2_takeBack 5 (some .int) :: W0) rm_X2_takeBack (va_Pc [.ref o, .int x, .int y] (shM D cI o a σ)) (shQ D cI o a (m_X2_takeBack σ x y)) 0 0 (shA o a) := by
  refine st_gen (cc := cX2_takeBack) (maxL := 5) (ret := some .int) (own := RX2) (by decide) rfl (Nat.le_of_ble_eq_true rfl) ?_
  intro p e s m below meth c ls C hPre hl
  obtain ⟨hx, hb, hr, hml, hown, hts, hlk⟩ := C
  obtain ⟨⟨hP, hK⟩, hD⟩ := hPre
  have hS : va_S (shA o a) s.heap s.heap [] := va_S.rf
  have hl : lv_has ls 5 [(0, .ref (o)), (1, .int (x)), (2, .int (y))] := hl
  obtain ⟨hT6, hC6, hN6⟩ := okS_b hok
  refine lv_aload_n hx hb dX2_takeBack_0 rfl (lv_at hl 0 rfl) ?_
  refine lv_iload_n hx hb dX2_takeBack_1 rfl (lv_at hl 1 rfl) ?_
  refine sh_call (rest := []) hx hb hml hown hts hK hP (c_X2_hasCopy l D cI o a σ x) (kV_X2_hasCopy hts ml_X2_128 ⟨(Nat.le_of_ble_eq_true rfl), (Nat.le_of_ble_eq_true rfl)⟩) rfl hl.1 rfl (Nat.le_of_ble_eq_true rfl) dX2_takeBack_2 (Nat.zero_le _) (Nat.zero_le _) ?_
  refine lv_if_ne (tgt := 11) hx hb dX2_takeBack_5 (by decide) (fun c_5 => ?_) (fun c_5 => ?_)
  · have v_5 := hasCopy_ok (σ := σ) (by with_reducible assumption) c_5
    have vb_5 := v_5.1
    refine lv_iload_n hx hb dX2_takeBack_11 rfl (lv_at hl 2 rfl) ?_
    refine cl_S (rest := []) hx hb hml hown hts (c_X2_isGrade l y) (kS_X2_isGrade hts ml_X2_161 ⟨(Nat.le_of_ble_eq_true rfl), (Nat.le_of_ble_eq_true rfl)⟩) rfl hl.1 rfl (Nat.le_of_ble_eq_true rfl) dX2_takeBack_12 (Nat.zero_le _) (Nat.zero_le _) ?_
    refine lv_if_ne (tgt := 21) hx hb dX2_takeBack_15 (by decide) (fun c_15 => ?_) (fun c_15 => ?_)
    · refine lv_aload_n hx hb dX2_takeBack_21 rfl (lv_at hl 0 rfl) ?_
      refine sh_g13 hx hb hts hown hK hP dX2_takeBack_22 ?_
      refine lv_iload_n hx hb dX2_takeBack_25 rfl (lv_at hl 1 rfl) ?_
      refine sh_r13 hx hb hK hP (tn x) v_5.2 (by omega) (v := σ 13 (tn x)) rfl dX2_takeBack_26 ?_
      refine lv_iconst (v := 1) hx hb dX2_takeBack_27 (by decide) ?_
      refine lv_icmp_eq (tgt := 34) hx hb dX2_takeBack_28 (by decide) (fun c_28 => ?_) (fun c_28 => ?_)
      · have hr8 := okS_r hok vb_5 c_28
        have hr9 := hr8.2
        refine lv_aload_n hx hb dX2_takeBack_34 rfl (lv_at hl 0 rfl) ?_
        refine lv_iload_n hx hb dX2_takeBack_35 rfl (lv_at hl 1 rfl) ?_
        refine sh_call (rest := []) hx hb hml hown hts hK hP (c_X2_lateCharge l D cI o a σ x (tn x) v_5.2 (by with_reducible assumption) (by first | with_reducible assumption | omega)) (kV_X2_lateCharge hts ml_X2_178 ⟨(Nat.le_of_ble_eq_true rfl), (Nat.le_of_ble_eq_true rfl)⟩) rfl hl.1 rfl (Nat.le_of_ble_eq_true rfl) dX2_takeBack_36 (Nat.zero_le _) (Nat.zero_le _) ?_
        refine lv_istore_n (lv' := [(3, .int ((f_X2_lateCharge σ (tn x)))), (0, .ref (o)), (1, .int (x)), (2, .int (y))]) hx hb dX2_takeBack_39 rfl hl (by decide) rfl (fun ls hl => ?_)
        refine lv_aload_n hx hb dX2_takeBack_40 rfl (lv_at hl 1 rfl) ?_
        refine lv_iload_n hx hb dX2_takeBack_41 rfl (lv_at hl 2 rfl) ?_
        refine lv_iload_n hx hb dX2_takeBack_42 rfl (lv_at hl 3 rfl) ?_
        refine sh_call (rest := []) hx hb hml hown hts hK hP (c_X2_damageCharge l D cI o a σ x (tn x) v_5.2 y (by with_reducible assumption) (by first | with_reducible assumption | omega)) (kV_X2_damageCharge hts ml_X2_181 ⟨(Nat.le_of_ble_eq_true rfl), (Nat.le_of_ble_eq_true rfl)⟩) rfl hl.1 rfl (Nat.le_of_ble_eq_true rfl) dX2_takeBack_43 (Nat.zero_le _) (Nat.zero_le _) ?_
        refine lv_istore (lv' := [(4, .int ((f_X2_damageCharge σ (tn x) y))), (3, .int ((f_X2_lateCharge σ (tn x)))), (0, .ref (o)), (1, .int (x)), (2, .int (y))]) hx hb dX2_takeBack_46 hl (by decide) rfl (fun ls hl => ?_)
        refine lv_aload_n hx hb dX2_takeBack_48 rfl (lv_at hl 2 rfl) ?_
        refine lv_iload_n hx hb dX2_takeBack_49 rfl (lv_at hl 3 rfl) ?_
        refine lv_iload_n hx hb dX2_takeBack_50 rfl (lv_at hl 4 rfl) ?_
        refine sh_call (rest := []) hx hb hml hown hts hK hP (c_X2_isRuinedBy l D cI o a σ x (tn x) v_5.2 y (by with_reducible assumption) (by first | with_reducible assumption | omega)) (kV_X2_isRuinedBy hts ml_X2_184 ⟨(Nat.le_of_ble_eq_true rfl), (Nat.le_of_ble_eq_true rfl)⟩) rfl hl.1 rfl (Nat.le_of_ble_eq_true rfl) dX2_takeBack_51 (Nat.zero_le _) (Nat.zero_le _) ?_
        refine lv_if_eq (tgt := 78) hx hb dX2_takeBack_54 (by decide) (fun c_54 => ?_) (fun c_54 => ?_)
        · refine lv_aload_n hx hb dX2_takeBack_78 rfl (lv_at hl 2 rfl) ?_
          refine sh_g13 hx hb hts hown hK hP dX2_takeBack_79 ?_
          refine lv_iload_n hx hb dX2_takeBack_82 rfl (lv_at hl 3 rfl) ?_
          refine lv_iconst (v := 0) hx hb dX2_takeBack_83 (by decide) ?_
          refine sh_w13 hx hb hK hP hD hS (tn x) v_5.2 (by omega) dX2_takeBack_84 (fun H locs hP hS => ?_)
          refine lv_aload_n hx hb dX2_takeBack_85 rfl (lv_at hl 2 rfl) ?_
          refine sh_g12 hx hb hts hown hK hP dX2_takeBack_86 ?_
          refine lv_iload_n hx hb dX2_takeBack_89 rfl (lv_at hl 3 rfl) ?_
          refine lv_dup2_11 hx hb dX2_takeBack_90 rfl rfl ?_
          refine sh_r12 hx hb hK hP (tn x) v_5.2 (by omega) (v := σ 12 (tn x)) rfl dX2_takeBack_91 ?_
          refine lv_iload_n hx hb dX2_takeBack_92 rfl (lv_at hl 4 rfl) ?_
          refine lv_iadd hx hb dX2_takeBack_93 ?_
          refine sh_w12 hx hb hK hP hD hS (tn x) v_5.2 (by omega) dX2_takeBack_94 (fun H locs hP hS => ?_)
          refine lv_aload_n hx hb dX2_takeBack_95 rfl (lv_at hl 2 rfl) ?_
          refine sh_g16 hx hb hts hown hK hP dX2_takeBack_96 ?_
          refine lv_iconst (v := 2) hx hb dX2_takeBack_99 (by decide) ?_
          refine lv_dup2_11 hx hb dX2_takeBack_100 rfl rfl ?_
          refine sh_r16 hx hb hK hP (2) rfl (by omega) (v := σ 16 2) rfl dX2_takeBack_101 ?_
          refine lv_iload hx hb dX2_takeBack_102 (lv_at hl 0 rfl) ?_
          refine lv_iadd hx hb dX2_takeBack_104 ?_
          refine sh_w16 hx hb hK hP hD hS (2) rfl (by omega) dX2_takeBack_105 (fun H locs hP hS => ?_)
          refine lv_aload_n hx hb dX2_takeBack_106 rfl (lv_at hl 2 rfl) ?_
          refine sh_g16 hx hb hts hown hK hP dX2_takeBack_107 ?_
          refine lv_iconst (v := 1) hx hb dX2_takeBack_110 (by decide) ?_
          refine lv_dup2_11 hx hb dX2_takeBack_111 rfl rfl ?_
          refine sh_r16 hx hb hK hP (1) rfl (by omega) (v := σ 16 1) rfl dX2_takeBack_112 ?_
          refine lv_iload_n hx hb dX2_takeBack_113 rfl (lv_at hl 1 rfl) ?_
          refine lv_iadd hx hb dX2_takeBack_114 ?_
          refine sh_w16 hx hb hK hP hD hS (1) rfl (by omega) dX2_takeBack_115 (fun H locs hP hS => ?_)
          refine lv_aload_n hx hb dX2_takeBack_116 rfl (lv_at hl 2 rfl) ?_
          refine sh_g17 hx hb hts hown hK hP dX2_takeBack_117 ?_
          refine lv_aload_n hx hb dX2_takeBack_120 rfl (lv_at hl 2 rfl) ?_
          refine sh_g14 hx hb hts hown hK hP dX2_takeBack_121 ?_
          refine lv_iload_n hx hb dX2_takeBack_124 rfl (lv_at hl 3 rfl) ?_
          refine sh_r14 hx hb hK hP (tn x) v_5.2 (by omega) (v := σ 14 (tn x)) rfl dX2_takeBack_125 ?_
          refine lv_dup2_11 hx hb dX2_takeBack_126 rfl rfl ?_
          refine sh_r17 hx hb hK hP (rOf σ (tn x)) hr8.1 (by omega) (v := σ 17 (rOf σ (tn x))) rfl dX2_takeBack_127 ?_
          refine lv_iload_n hx hb dX2_takeBack_128 rfl (lv_at hl 1 rfl) ?_
          refine lv_iload hx hb dX2_takeBack_129 (lv_at hl 0 rfl) ?_
          refine lv_iadd hx hb dX2_takeBack_131 ?_
          refine lv_iadd hx hb dX2_takeBack_132 ?_
          refine sh_w17 hx hb hK hP hD hS (rOf σ (tn x)) hr8.1 (by omega) dX2_takeBack_133 (fun H locs hP hS => ?_)
          refine lv_iload_n hx hb dX2_takeBack_134 rfl (lv_at hl 1 rfl) ?_
          refine lv_iload hx hb dX2_takeBack_135 (lv_at hl 0 rfl) ?_
          refine lv_iadd hx hb dX2_takeBack_137 ?_
          exact sh_finM hx hb hr hlk hK hP hS (br_n c_5 (br_n c_15 (br_p c_28 (br_p c_54 rfl)))) dX2_takeBack_138
        refine lv_aload_n hx hb dX2_takeBack_57 rfl (lv_at hl 2 rfl) ?_
        refine sh_g13 hx hb hts hown hK hP dX2_takeBack_58 ?_
        refine lv_iload_n hx hb dX2_takeBack_61 rfl (lv_at hl 3 rfl) ?_
        refine lv_iconst (v := 3) hx hb dX2_takeBack_62 (by decide) ?_
        refine sh_w13 hx hb hK hP hD hS (tn x) v_5.2 (by omega) dX2_takeBack_63 (fun H locs hP hS => ?_)
        refine lv_aload_n hx hb dX2_takeBack_64 rfl (lv_at hl 2 rfl) ?_
        refine sh_g16 hx hb hts hown hK hP dX2_takeBack_65 ?_
        refine lv_iconst (v := 3) hx hb dX2_takeBack_68 (by decide) ?_
        refine lv_dup2_11 hx hb dX2_takeBack_69 rfl rfl ?_
        refine sh_r16 hx hb hK hP (3) rfl (by omega) (v := σ 16 3) rfl dX2_takeBack_70 ?_
        refine lv_iload hx hb dX2_takeBack_71 (lv_at hl 0 rfl) ?_
        refine lv_iadd hx hb dX2_takeBack_73 ?_
        refine sh_w16 hx hb hK hP hD hS (3) rfl (by omega) dX2_takeBack_74 (fun H locs hP hS => ?_)
        refine lv_goto (tgt := 106) hx hb dX2_takeBack_75 (by decide) ?_
        refine lv_aload_n hx hb dX2_takeBack_106 rfl (lv_at hl 2 rfl) ?_
        refine sh_g16 hx hb hts hown hK hP dX2_takeBack_107 ?_
        refine lv_iconst (v := 1) hx hb dX2_takeBack_110 (by decide) ?_
        refine lv_dup2_11 hx hb dX2_takeBack_111 rfl rfl ?_
        refine sh_r16 hx hb hK hP (1) rfl (by omega) (v := σ 16 1) rfl dX2_takeBack_112 ?_
        refine lv_iload_n hx hb dX2_takeBack_113 rfl (lv_at hl 1 rfl) ?_
        refine lv_iadd hx hb dX2_takeBack_114 ?_
        refine sh_w16 hx hb hK hP hD hS (1) rfl (by omega) dX2_takeBack_115 (fun H locs hP hS => ?_)
        refine lv_aload_n hx hb dX2_takeBack_116 rfl (lv_at hl 2 rfl) ?_
        refine sh_g17 hx hb hts hown hK hP dX2_takeBack_117 ?_
        refine lv_aload_n hx hb dX2_takeBack_120 rfl (lv_at hl 2 rfl) ?_
        refine sh_g14 hx hb hts hown hK hP dX2_takeBack_121 ?_
        refine lv_iload_n hx hb dX2_takeBack_124 rfl (lv_at hl 3 rfl) ?_
        refine sh_r14 hx hb hK hP (tn x) v_5.2 (by omega) (v := σ 14 (tn x)) rfl dX2_takeBack_125 ?_
        refine lv_dup2_11 hx hb dX2_takeBack_126 rfl rfl ?_
        refine sh_r17 hx hb hK hP (rOf σ (tn x)) hr8.1 (by omega) (v := σ 17 (rOf σ (tn x))) rfl dX2_takeBack_127 ?_
        refine lv_iload_n hx hb dX2_takeBack_128 rfl (lv_at hl 1 rfl) ?_
        refine lv_iload hx hb dX2_takeBack_129 (lv_at hl 0 rfl) ?_
        refine lv_iadd hx hb dX2_takeBack_131 ?_
        refine lv_iadd hx hb dX2_takeBack_132 ?_
        refine sh_w17 hx hb hK hP hD hS (rOf σ (tn x)) hr8.1 (by omega) dX2_takeBack_133 (fun H locs hP hS => ?_)
        refine lv_iload_n hx hb dX2_takeBack_134 rfl (lv_at hl 1 rfl) ?_
        refine lv_iload hx hb dX2_takeBack_135 (lv_at hl 0 rfl) ?_
        refine lv_iadd hx hb dX2_takeBack_137 ?_
        exact sh_finM hx hb hr hlk hK hP hS (br_n c_5 (br_n c_15 (br_p c_28 (br_n c_54 rfl)))) dX2_takeBack_138
      refine lv_bipush (v := (-4)) hx hb dX2_takeBack_31 (by decide) ?_
      exact sh_finM hx hb hr hlk hK hP hS (br_n c_5 (br_n c_15 (br_n c_28 rfl))) dX2_takeBack_33
    refine lv_bipush (v := (-3)) hx hb dX2_takeBack_18 (by decide) ?_
    exact sh_finM hx hb hr hlk hK hP hS (br_n c_5 (br_p c_15 rfl)) dX2_takeBack_20
  refine lv_bipush (v := (-2)) hx hb dX2_takeBack_8 (by decide) ?_
  exact sh_finM hx hb hr hlk hK hP hS (br_p c_5 rfl) dX2_takeBack_10
theorem kV_X2_takeBack {R : Room} {s : State} {args : Array Value} {own : String} {idx : Nat} {c0 : Cond} (hts : ∀ w ∈ c0 :: W0, w.before args s = true) (hl : Cond.methodLink own idx yX2_takeBack ∈ W0) (hR : rm_X2_takeBack.frames + 1 ≤ R.frames ∧ 8 + (5 + 11) + rm_X2_takeBack.locals ≤ R.locals) : CallW R s args own RX2 idx yX2_takeBack cX2_takeBack 5 (some .int) (Cond.code yX2_takeBack cX2_takeBack 5 (some .int) :: W0) rm_X2_takeBack 0 0 2 := cwV 2 hts (gdV hl mi_yX2_takeBack ms_yX2_takeBack mini_X2 mc_yX2_takeBack) rfl rfl rfl (by decide +kernel) hR

/-! X2.passDays -/
def g_X2_passDays_42 (σ : Nat → Nat → Int32) (x : Int32) : Nat → (Nat) → (Int32) → (Nat → Nat → Int32) → Int32 × (Nat → Nat → Int32)
  | 0, k, x2, ω => (x2, ω)
  | fu + 1, k, x2, ω => (if nN ω ≤ k then (x2, ω) else (if (f_X2_isLostOn ω k (ω 0 0)) = 0 then g_X2_passDays_42 σ x fu (k + 1) x2 ω else g_X2_passDays_42 σ x fu (k + 1) (x2 + 1) (shU (shU (shU ω 13 k 3) 16 3 ((ω 16 3) + (f_X2_worthOf ω k))) 17 (rOf ω k) ((ω 17 (rOf ω k)) + (f_X2_worthOf ω k)))))
def m_X2_passDays (σ : Nat → Nat → Int32) (x : Int32) : Int32 × (Nat → Nat → Int32) := (if (f_X2_isBetween x 1 400) = 0 then ((-3), σ) else (if ((σ 0 0) + x) ≤ 100000 then ((g_X2_passDays_42 σ x (nN σ + 1) 0 0 (shS σ 0 ((σ 0 0) + x))).1, (g_X2_passDays_42 σ x (nN σ + 1) 0 0 (shS σ 0 ((σ 0 0) + x))).2) else ((-5), σ)))
abbrev rm_X2_passDays : Room := { frames := 3, cells := 0, slots := 0, locals := 70 }
set_option maxRecDepth 100000 in
theorem c_X2_passDays (l : Launch) (D : va_G) (cI : ClassId) (o : Nat) (a : Nat → Nat) (σ : Nat → Nat → Int32) (x : Int32) (hok : okS σ) :
    Met l yX2_passDays (Cond.code yX2_passDays cX2_passDays 5 (some .int) :: W0) rm_X2_passDays (va_Pc [.ref o, .int x] (shM D cI o a σ)) (shQ D cI o a (m_X2_passDays σ x)) 0 0 (shA o a) := by
  refine st_gen (cc := cX2_passDays) (maxL := 5) (ret := some .int) (own := RX2) (by decide) rfl (Nat.le_of_ble_eq_true rfl) ?_
  intro p e s m below meth c ls C hPre hl
  obtain ⟨hx, hb, hr, hml, hown, hts, hlk⟩ := C
  obtain ⟨⟨hP, hK⟩, hD⟩ := hPre
  have hS : va_S (shA o a) s.heap s.heap [] := va_S.rf
  have hl : lv_has ls 5 [(0, .ref (o)), (1, .int (x))] := hl
  obtain ⟨hT6, hC6, hN6⟩ := okS_b hok
  refine lv_iload_n hx hb dX2_passDays_0 rfl (lv_at hl 1 rfl) ?_
  refine lv_iconst (v := 1) hx hb dX2_passDays_1 (by decide) ?_
  refine lv_sipush (v := 400) hx hb dX2_passDays_2 (by decide) ?_
  refine cl_S (rest := []) hx hb hml hown hts (c_X2_isBetween l x 1 400) (kS_X2_isBetween hts ml_X2_93 ⟨(Nat.le_of_ble_eq_true rfl), (Nat.le_of_ble_eq_true rfl)⟩) rfl hl.1 rfl (Nat.le_of_ble_eq_true rfl) dX2_passDays_5 (Nat.zero_le _) (Nat.zero_le _) ?_
  refine lv_if_ne (tgt := 14) hx hb dX2_passDays_8 (by decide) (fun c_8 => ?_) (fun c_8 => ?_)
  · have v_8 := btwN 400 c_8 (by decide) rfl (by decide)
    have vb_8 := v_8.1
    refine lv_aload_n hx hb dX2_passDays_14 rfl (lv_at hl 0 rfl) ?_
    refine sh_g0 hx hb hts hown hK hP (v := σ 0 0) rfl dX2_passDays_15 ?_
    refine lv_iload_n hx hb dX2_passDays_18 rfl (lv_at hl 1 rfl) ?_
    refine lv_iadd hx hb dX2_passDays_19 ?_
    refine lv_ldc (v := 100000) hx hb hown (hts _ (List.mem_cons_of_mem _ mk_X2_187)) dX2_passDays_20 ?_
    refine lv_icmp_le (tgt := 28) hx hb dX2_passDays_22 (by decide) (fun c_22 => ?_) (fun c_22 => ?_)
    · refine lv_aload_n hx hb dX2_passDays_28 rfl (lv_at hl 0 rfl) ?_
      refine lv_dup hx hb dX2_passDays_29 rfl ?_
      refine sh_g0 hx hb hts hown hK hP (v := σ 0 0) rfl dX2_passDays_30 ?_
      refine lv_iload_n hx hb dX2_passDays_33 rfl (lv_at hl 1 rfl) ?_
      refine lv_iadd hx hb dX2_passDays_34 ?_
      refine sh_p0 hx hb hts hown hK hP hD hS dX2_passDays_35 (fun H locs hP hS => ?_)
      refine lv_iconst (v := 0) hx hb dX2_passDays_38 (by decide) ?_
      refine lv_istore_n (lv' := [(2, .int (0)), (0, .ref (o)), (1, .int (x))]) hx hb dX2_passDays_39 rfl hl (by decide) rfl (fun ls hl => ?_)
      refine lv_iconst (v := 0) hx hb dX2_passDays_40 (by decide) ?_
      refine lv_istore_n (lv' := [(3, .int (0)), (2, .int (0)), (0, .ref (o)), (1, .int (x))]) hx hb dX2_passDays_41 rfl hl (by decide) rfl (fun ls hl => ?_)
      have K_112 : ∀ (H : Heap) (locs : List Loc), va_P D vwCl (shW cI o a ((g_X2_passDays_42 σ x (nN σ + 1) 0 0 (shS σ 0 ((σ 0 0) + x))).2)) H → va_S (shA o a) s.heap H locs → ∀ ls, lv_has ls 5 [(0, .ref (o)), (1, .int (x)), (2, .int ((g_X2_passDays_42 σ x (nN σ + 1) 0 0 (shS σ 0 ((σ 0 0) + x))).1))] → W p l e rm_X2_passDays s m (([.ref (o), .int (x)] : List Value).toArray) below meth c H locs 0 0 (MQ below (shQ D cI o a (m_X2_passDays σ x)) ([.ref (o), .int (x)] : List Value).toArray s 0 0 (shA o a)) (F0 m 112 ls []) := by
        intro H locs hP hS ls hl
        refine lv_iload_n hx hb dX2_passDays_112 rfl (lv_at hl 2 rfl) ?_
        exact sh_finM hx hb hr hlk hK hP hS (br_n c_8 (br_p c_22 rfl)) dX2_passDays_113
      have L_42 : ∀ (fu : Nat) (k : Nat) (x2 : Int32) (ω : Nat → Nat → Int32), nN σ - k < fu → k ≤ nN σ → okS ω → nN ω = nN σ → g_X2_passDays_42 σ x fu k x2 ω = g_X2_passDays_42 σ x (nN σ + 1) 0 0 (shS σ 0 ((σ 0 0) + x)) → ∀ (H : Heap) (locs : List Loc), va_P D vwCl (shW cI o a ω) H → va_S (shA o a) s.heap H locs → ∀ ls, lv_has ls 5 [(0, .ref (o)), (1, .int (x)), (3, .int (nI k)), (2, .int (x2))] → W p l e rm_X2_passDays s m (([.ref (o), .int (x)] : List Value).toArray) below meth c H locs 0 0 (MQ below (shQ D cI o a (m_X2_passDays σ x)) ([.ref (o), .int (x)] : List Value).toArray s 0 0 (shA o a)) (F0 m 42 ls []) := by
        intro fu
        induction fu with
        | zero => intro k x2 ω hm; exact absurd hm (Nat.not_lt_zero _)
        | succ fu ih =>
          intro k x2 ω hm hkN hok2 hn2 hg_42 H locs hP hS ls hl
          refine lv_iload_n hx hb dX2_passDays_42 rfl (lv_at hl 2 rfl) ?_
          refine lv_aload_n hx hb dX2_passDays_43 rfl (lv_at hl 0 rfl) ?_
          refine sh_g3 hx hb hts hown hK hP (v := ω 3 0) rfl dX2_passDays_44 ?_
          refine lv_icmp_geN (k) (nN ω) hx hb rfl (okS_3 (σ := ω) (by with_reducible assumption)) (by omega) (by omega) (tgt := 112) dX2_passDays_47 (by decide) (fun c_47 => ?_) (fun c_47 => ?_)
          · have ex : (x2, ω) = g_X2_passDays_42 σ x (nN σ + 1) 0 0 (shS σ 0 ((σ 0 0) + x)) := ((br_p c_47 rfl) : (x2, ω) = g_X2_passDays_42 σ x (fu + 1) k x2 ω).trans hg_42
            have ex0 : x2 = (g_X2_passDays_42 σ x (nN σ + 1) 0 0 (shS σ 0 ((σ 0 0) + x))).1 := congrArg (fun z => z.1) ex
            have ex1 : ω = (g_X2_passDays_42 σ x (nN σ + 1) 0 0 (shS σ 0 ((σ 0 0) + x))).2 := congrArg (fun z => z.2) ex
            exact K_112 _ _ (by rw [← ex1]; exact hP) hS ls (by rw [← ex0]; exact lv_sub hl [0, 1, 3] rfl)
          refine lv_aload_n hx hb dX2_passDays_50 rfl (lv_at hl 0 rfl) ?_
          refine lv_iload_n hx hb dX2_passDays_51 rfl (lv_at hl 2 rfl) ?_
          refine lv_aload_n hx hb dX2_passDays_52 rfl (lv_at hl 0 rfl) ?_
          refine sh_g0 hx hb hts hown hK hP (v := ω 0 0) rfl dX2_passDays_53 ?_
          refine sh_call (rest := []) hx hb hml hown hts hK hP (c_X2_isLostOn l D cI o a ω (nI k) k rfl (ω 0 0) (by with_reducible assumption) (by first | with_reducible assumption | omega)) (kV_X2_isLostOn hts ml_X2_188 ⟨(Nat.le_of_ble_eq_true rfl), (Nat.le_of_ble_eq_true rfl)⟩) rfl hl.1 rfl (Nat.le_of_ble_eq_true rfl) dX2_passDays_56 (Nat.zero_le _) (Nat.zero_le _) ?_
          refine lv_if_eq (tgt := 106) hx hb dX2_passDays_59 (by decide) (fun c_59 => ?_) (fun c_59 => ?_)
          · refine lv_iinc (v := nI (k + 1)) (lv' := [(3, .int (nI (k + 1))), (0, .ref (o)), (1, .int (x)), (2, .int (x2))]) hx hb dX2_passDays_106 hl (k := 2) rfl (nI_c1 _) (by decide) rfl (fun ls hl => ?_)
            refine lv_goto (tgt := 42) hx hb dX2_passDays_109 (by decide) ?_
            exact ih (k + 1) x2 ω (by omega) (by omega) (by first | exact hok2 | exact okS_of hok2 rfl rfl rfl rfl rfl (fun _ h => shU_13 (by decide) h)) hn2 (((br_n c_47 (br_p c_59 rfl)) : g_X2_passDays_42 σ x fu (k + 1) x2 ω = g_X2_passDays_42 σ x (fu + 1) k x2 ω).trans hg_42) _ _ hP hS ls (lv_sub hl [1, 2, 0, 3] rfl)
          have hr8 := okS_r hok2 (k := k) (by omega) (lostOn_1 c_59)
          have hr9 := hr8.2
          refine lv_aload_n hx hb dX2_passDays_62 rfl (lv_at hl 0 rfl) ?_
          refine lv_iload_n hx hb dX2_passDays_63 rfl (lv_at hl 2 rfl) ?_
          refine sh_call (rest := []) hx hb hml hown hts hK hP (c_X2_worthOf l D cI o a ω (nI k) k rfl (by with_reducible assumption) (by first | with_reducible assumption | omega)) (kV_X2_worthOf hts ml_X2_131 ⟨(Nat.le_of_ble_eq_true rfl), (Nat.le_of_ble_eq_true rfl)⟩) rfl hl.1 rfl (Nat.le_of_ble_eq_true rfl) dX2_passDays_64 (Nat.zero_le _) (Nat.zero_le _) ?_
          refine lv_istore (lv' := [(4, .int ((f_X2_worthOf ω k))), (0, .ref (o)), (1, .int (x)), (3, .int (nI k)), (2, .int (x2))]) hx hb dX2_passDays_67 hl (by decide) rfl (fun ls hl => ?_)
          refine lv_aload_n hx hb dX2_passDays_69 rfl (lv_at hl 1 rfl) ?_
          refine sh_g13 hx hb hts hown hK hP dX2_passDays_70 ?_
          refine lv_iload_n hx hb dX2_passDays_73 rfl (lv_at hl 3 rfl) ?_
          refine lv_iconst (v := 3) hx hb dX2_passDays_74 (by decide) ?_
          refine sh_w13 hx hb hK hP hD hS (k) rfl (by omega) dX2_passDays_75 (fun H locs hP hS => ?_)
          refine lv_aload_n hx hb dX2_passDays_76 rfl (lv_at hl 1 rfl) ?_
          refine sh_g16 hx hb hts hown hK hP dX2_passDays_77 ?_
          refine lv_iconst (v := 3) hx hb dX2_passDays_80 (by decide) ?_
          refine lv_dup2_11 hx hb dX2_passDays_81 rfl rfl ?_
          refine sh_r16 hx hb hK hP (3) rfl (by omega) (v := ω 16 3) rfl dX2_passDays_82 ?_
          refine lv_iload hx hb dX2_passDays_83 (lv_at hl 0 rfl) ?_
          refine lv_iadd hx hb dX2_passDays_85 ?_
          refine sh_w16 hx hb hK hP hD hS (3) rfl (by omega) dX2_passDays_86 (fun H locs hP hS => ?_)
          refine lv_aload_n hx hb dX2_passDays_87 rfl (lv_at hl 1 rfl) ?_
          refine sh_g17 hx hb hts hown hK hP dX2_passDays_88 ?_
          refine lv_aload_n hx hb dX2_passDays_91 rfl (lv_at hl 1 rfl) ?_
          refine sh_g14 hx hb hts hown hK hP dX2_passDays_92 ?_
          refine lv_iload_n hx hb dX2_passDays_95 rfl (lv_at hl 3 rfl) ?_
          refine sh_r14 hx hb hK hP (k) rfl (by omega) (v := ω 14 k) rfl dX2_passDays_96 ?_
          refine lv_dup2_11 hx hb dX2_passDays_97 rfl rfl ?_
          refine sh_r17 hx hb hK hP (rOf ω k) hr8.1 (by omega) (v := ω 17 (rOf ω k)) rfl dX2_passDays_98 ?_
          refine lv_iload hx hb dX2_passDays_99 (lv_at hl 0 rfl) ?_
          refine lv_iadd hx hb dX2_passDays_101 ?_
          refine sh_w17 hx hb hK hP hD hS (rOf ω k) hr8.1 (by omega) dX2_passDays_102 (fun H locs hP hS => ?_)
          refine lv_iinc (v := x2 + 1) (lv' := [(2, .int (x2 + 1)), (4, .int ((f_X2_worthOf ω k))), (0, .ref (o)), (1, .int (x)), (3, .int (nI k))]) hx hb dX2_passDays_103 hl (k := 4) rfl rfl (by decide) rfl (fun ls hl => ?_)
          refine lv_iinc (v := nI (k + 1)) (lv' := [(3, .int (nI (k + 1))), (2, .int (x2 + 1)), (4, .int ((f_X2_worthOf ω k))), (0, .ref (o)), (1, .int (x))]) hx hb dX2_passDays_106 hl (k := 4) rfl (nI_c1 _) (by decide) rfl (fun ls hl => ?_)
          refine lv_goto (tgt := 42) hx hb dX2_passDays_109 (by decide) ?_
          exact ih (k + 1) (x2 + 1) (shU (shU (shU ω 13 k 3) 16 3 ((ω 16 3) + (f_X2_worthOf ω k))) 17 (rOf ω k) ((ω 17 (rOf ω k)) + (f_X2_worthOf ω k))) (by omega) (by omega) (by first | exact hok2 | exact okS_of hok2 rfl rfl rfl rfl rfl (fun _ h => shU_13 (by decide) h)) hn2 (((br_n c_47 (br_n c_59 rfl)) : g_X2_passDays_42 σ x fu (k + 1) (x2 + 1) (shU (shU (shU ω 13 k 3) 16 3 ((ω 16 3) + (f_X2_worthOf ω k))) 17 (rOf ω k) ((ω 17 (rOf ω k)) + (f_X2_worthOf ω k))) = g_X2_passDays_42 σ x (fu + 1) k x2 ω).trans hg_42) _ _ hP hS ls (lv_sub hl [3, 4, 0, 1] rfl)
      exact L_42 (nN σ + 1) 0 0 (shS σ 0 ((σ 0 0) + x)) (by omega) (by omega) (okS_of hok rfl rfl rfl rfl rfl (fun _ h => h)) rfl rfl _ _ hP hS ls (lv_sub hl [2, 3, 0, 1] rfl)
    refine lv_bipush (v := (-5)) hx hb dX2_passDays_25 (by decide) ?_
    exact sh_finM hx hb hr hlk hK hP hS (br_n c_8 (br_n c_22 rfl)) dX2_passDays_27
  refine lv_bipush (v := (-3)) hx hb dX2_passDays_11 (by decide) ?_
  exact sh_finM hx hb hr hlk hK hP hS (br_p c_8 rfl) dX2_passDays_13
theorem kV_X2_passDays {R : Room} {s : State} {args : Array Value} {own : String} {idx : Nat} {c0 : Cond} (hts : ∀ w ∈ c0 :: W0, w.before args s = true) (hl : Cond.methodLink own idx yX2_passDays ∈ W0) (hR : rm_X2_passDays.frames + 1 ≤ R.frames ∧ 8 + (5 + 11) + rm_X2_passDays.locals ≤ R.locals) : CallW R s args own RX2 idx yX2_passDays cX2_passDays 5 (some .int) (Cond.code yX2_passDays cX2_passDays 5 (some .int) :: W0) rm_X2_passDays 0 0 1 := cwV 1 hts (gdV hl mi_yX2_passDays ms_yX2_passDays mini_X2 mc_yX2_passDays) rfl rfl rfl (by decide +kernel) hR

/-! X2.loseSight -/
def g_X2_loseSight_10 (σ : Nat → Nat → Int32) (x : Int32) (y : Int32) : Nat → (Nat) → (Int32) → (Nat → Nat → Int32) → (Nat → Nat → Int32)
  | 0, k, x3, ω => ω
  | fu + 1, k, x3, ω => (if k = 0 then ω else (if x3 ≤ 0 then ω else (if (ω 10 (k - 1)) = x then (if (ω 13 (k - 1)) = 0 then g_X2_loseSight_10 σ x y fu (k - 1) (x3 - 1) (shU ω 13 (k - 1) 4) else g_X2_loseSight_10 σ x y fu (k - 1) x3 ω) else g_X2_loseSight_10 σ x y fu (k - 1) x3 ω)))
def s_X2_loseSight (σ : Nat → Nat → Int32) (x : Int32) (y : Int32) : Nat → Nat → Int32 := (g_X2_loseSight_10 σ x y (nN σ + 1) (nN σ) y σ)
abbrev rm_X2_loseSight : Room := { frames := 0, cells := 0, slots := 0, locals := 0 }
set_option maxRecDepth 100000 in
theorem c_X2_loseSight (l : Launch) (D : va_G) (cI : ClassId) (o : Nat) (a : Nat → Nat) (σ : Nat → Nat → Int32) (x : Int32) (y : Int32) (hok : okS σ) :
    Met l yX2_loseSight (Cond.code yX2_loseSight cX2_loseSight 5 (none) :: W0) rm_X2_loseSight (va_Pc [.ref o, .int x, .int y] (shM D cI o a σ)) (shV D cI o a (s_X2_loseSight σ x y)) 0 0 (shA o a) := by
  refine st_gen (cc := cX2_loseSight) (maxL := 5) (ret := none) (own := RX2) (by decide) rfl (Nat.le_of_ble_eq_true rfl) ?_
  intro p e s m below meth c ls C hPre hl
  obtain ⟨hx, hb, hr, hml, hown, hts, hlk⟩ := C
  obtain ⟨⟨hP, hK⟩, hD⟩ := hPre
  have hS : va_S (shA o a) s.heap s.heap [] := va_S.rf
  have hl : lv_has ls 5 [(0, .ref (o)), (1, .int (x)), (2, .int (y))] := hl
  obtain ⟨hT6, hC6, hN6⟩ := okS_b hok
  refine lv_iload_n hx hb dX2_loseSight_0 rfl (lv_at hl 2 rfl) ?_
  refine lv_istore_n (lv' := [(3, .int (y)), (0, .ref (o)), (1, .int (x)), (2, .int (y))]) hx hb dX2_loseSight_1 rfl hl (by decide) rfl (fun ls hl => ?_)
  refine lv_aload_n hx hb dX2_loseSight_2 rfl (lv_at hl 1 rfl) ?_
  refine sh_g3 hx hb hts hown hK hP (v := σ 3 0) rfl dX2_loseSight_3 ?_
  refine lv_iconst (v := 1) hx hb dX2_loseSight_6 (by decide) ?_
  refine lv_isub hx hb dX2_loseSight_7 ?_
  refine lv_istore (lv' := [(4, .int ((σ 3 0) - 1)), (3, .int (y)), (0, .ref (o)), (1, .int (x)), (2, .int (y))]) hx hb dX2_loseSight_8 hl (by decide) rfl (fun ls hl => ?_)
  have K_57 : ∀ (H : Heap) (locs : List Loc), va_P D vwCl (shW cI o a (g_X2_loseSight_10 σ x y (nN σ + 1) (nN σ) y σ)) H → va_S (shA o a) s.heap H locs → ∀ ls, lv_has ls 5 [(0, .ref (o)), (1, .int (x)), (2, .int (y))] → W p l e rm_X2_loseSight s m (([.ref (o), .int (x), .int (y)] : List Value).toArray) below meth c H locs 0 0 (MQ below (shV D cI o a (s_X2_loseSight σ x y)) ([.ref (o), .int (x), .int (y)] : List Value).toArray s 0 0 (shA o a)) (F0 m 57 ls []) := by
    intro H locs hP hS ls hl
    exact sh_finV hx hb hr hlk hK hP hS rfl dX2_loseSight_57
  have L_10 : ∀ (fu : Nat) (k : Nat) (x3 : Int32) (ω : Nat → Nat → Int32), k < fu → k ≤ nN σ → g_X2_loseSight_10 σ x y fu k x3 ω = g_X2_loseSight_10 σ x y (nN σ + 1) (nN σ) y σ → ∀ (H : Heap) (locs : List Loc), va_P D vwCl (shW cI o a ω) H → va_S (shA o a) s.heap H locs → ∀ ls, lv_has ls 5 [(0, .ref (o)), (1, .int (x)), (2, .int (y)), (4, .int (nI k - 1)), (3, .int (x3))] → W p l e rm_X2_loseSight s m (([.ref (o), .int (x), .int (y)] : List Value).toArray) below meth c H locs 0 0 (MQ below (shV D cI o a (s_X2_loseSight σ x y)) ([.ref (o), .int (x), .int (y)] : List Value).toArray s 0 0 (shA o a)) (F0 m 10 ls []) := by
    intro fu
    induction fu with
    | zero => intro k x3 ω hm; exact absurd hm (Nat.not_lt_zero _)
    | succ fu ih =>
      intro k x3 ω hm hkN hg_10 H locs hP hS ls hl
      refine lv_iload hx hb dX2_loseSight_10 (lv_at hl 3 rfl) ?_
      refine lv_if_ltD (k) hx hb rfl (by omega) (tgt := 57) dX2_loseSight_12 (by decide) (fun c_12 => ?_) (fun c_12 => ?_)
      · have ex : ω = g_X2_loseSight_10 σ x y (nN σ + 1) (nN σ) y σ := ((br_p c_12 rfl) : ω = g_X2_loseSight_10 σ x y (fu + 1) k x3 ω).trans hg_10
        exact K_57 _ _ (by rw [← ex]; exact hP) hS ls (lv_sub hl [0, 1, 2] rfl)
      refine lv_iload_n hx hb dX2_loseSight_15 rfl (lv_at hl 4 rfl) ?_
      refine lv_if_le (tgt := 57) hx hb dX2_loseSight_16 (by decide) (fun c_16 => ?_) (fun c_16 => ?_)
      · have ex : ω = g_X2_loseSight_10 σ x y (nN σ + 1) (nN σ) y σ := ((br_n c_12 (br_p c_16 rfl)) : ω = g_X2_loseSight_10 σ x y (fu + 1) k x3 ω).trans hg_10
        exact K_57 _ _ (by rw [← ex]; exact hP) hS ls (lv_sub hl [0, 1, 2] rfl)
      refine lv_aload_n hx hb dX2_loseSight_19 rfl (lv_at hl 0 rfl) ?_
      refine sh_g10 hx hb hts hown hK hP dX2_loseSight_20 ?_
      refine lv_iload hx hb dX2_loseSight_23 (lv_at hl 3 rfl) ?_
      refine sh_r10 hx hb hK hP ((k - 1)) (dec_at c_12) (by omega) (v := ω 10 (k - 1)) rfl dX2_loseSight_25 ?_
      refine lv_iload_n hx hb dX2_loseSight_26 rfl (lv_at hl 1 rfl) ?_
      refine lv_icmp_ne (tgt := 51) hx hb dX2_loseSight_27 (by decide) (fun c_27 => ?_) (fun c_27 => ?_)
      · refine lv_iinc (v := nI (k - 1) - 1) (lv' := [(4, .int (nI (k - 1) - 1)), (0, .ref (o)), (1, .int (x)), (2, .int (y)), (3, .int (x3))]) hx hb dX2_loseSight_51 hl (k := 3) rfl (dec_inc c_12) (by decide) rfl (fun ls hl => ?_)
        refine lv_goto (tgt := 10) hx hb dX2_loseSight_54 (by decide) ?_
        exact ih (k - 1) x3 ω (by omega) (by omega) (((br_n c_12 (br_n c_16 (br_n c_27 rfl))) : g_X2_loseSight_10 σ x y fu (k - 1) x3 ω = g_X2_loseSight_10 σ x y (fu + 1) k x3 ω).trans hg_10) _ _ hP hS ls (lv_sub hl [1, 2, 3, 0, 4] rfl)
      refine lv_aload_n hx hb dX2_loseSight_30 rfl (lv_at hl 0 rfl) ?_
      refine sh_g13 hx hb hts hown hK hP dX2_loseSight_31 ?_
      refine lv_iload hx hb dX2_loseSight_34 (lv_at hl 3 rfl) ?_
      refine sh_r13 hx hb hK hP ((k - 1)) (dec_at c_12) (by omega) (v := ω 13 (k - 1)) rfl dX2_loseSight_36 ?_
      refine lv_if_ne (tgt := 51) hx hb dX2_loseSight_37 (by decide) (fun c_37 => ?_) (fun c_37 => ?_)
      · refine lv_iinc (v := nI (k - 1) - 1) (lv' := [(4, .int (nI (k - 1) - 1)), (0, .ref (o)), (1, .int (x)), (2, .int (y)), (3, .int (x3))]) hx hb dX2_loseSight_51 hl (k := 3) rfl (dec_inc c_12) (by decide) rfl (fun ls hl => ?_)
        refine lv_goto (tgt := 10) hx hb dX2_loseSight_54 (by decide) ?_
        exact ih (k - 1) x3 ω (by omega) (by omega) (((br_n c_12 (br_n c_16 (br_p c_27 (br_n c_37 rfl)))) : g_X2_loseSight_10 σ x y fu (k - 1) x3 ω = g_X2_loseSight_10 σ x y (fu + 1) k x3 ω).trans hg_10) _ _ hP hS ls (lv_sub hl [1, 2, 3, 0, 4] rfl)
      refine lv_aload_n hx hb dX2_loseSight_40 rfl (lv_at hl 0 rfl) ?_
      refine sh_g13 hx hb hts hown hK hP dX2_loseSight_41 ?_
      refine lv_iload hx hb dX2_loseSight_44 (lv_at hl 3 rfl) ?_
      refine lv_iconst (v := 4) hx hb dX2_loseSight_46 (by decide) ?_
      refine sh_w13 hx hb hK hP hD hS ((k - 1)) (dec_at c_12) (by omega) dX2_loseSight_47 (fun H locs hP hS => ?_)
      refine lv_iinc (v := x3 - 1) (lv' := [(3, .int (x3 - 1)), (0, .ref (o)), (1, .int (x)), (2, .int (y)), (4, .int (nI k - 1))]) hx hb dX2_loseSight_48 hl (k := 4) rfl (iinc_m _) (by decide) rfl (fun ls hl => ?_)
      refine lv_iinc (v := nI (k - 1) - 1) (lv' := [(4, .int (nI (k - 1) - 1)), (3, .int (x3 - 1)), (0, .ref (o)), (1, .int (x)), (2, .int (y))]) hx hb dX2_loseSight_51 hl (k := 4) rfl (dec_inc c_12) (by decide) rfl (fun ls hl => ?_)
      refine lv_goto (tgt := 10) hx hb dX2_loseSight_54 (by decide) ?_
      exact ih (k - 1) (x3 - 1) (shU ω 13 (k - 1) 4) (by omega) (by omega) (((br_n c_12 (br_n c_16 (br_p c_27 (br_p c_37 rfl)))) : g_X2_loseSight_10 σ x y fu (k - 1) (x3 - 1) (shU ω 13 (k - 1) 4) = g_X2_loseSight_10 σ x y (fu + 1) k x3 ω).trans hg_10) _ _ hP hS ls (lv_sub hl [2, 3, 4, 0, 1] rfl)
  rw [okS_3 hok] at hl
  exact L_10 (nN σ + 1) (nN σ) y σ (by omega) (by omega) rfl _ _ hP hS ls (lv_sub hl [2, 3, 4, 0, 1] rfl)
theorem kV_X2_loseSight {R : Room} {s : State} {args : Array Value} {own : String} {idx : Nat} {c0 : Cond} (hts : ∀ w ∈ c0 :: W0, w.before args s = true) (hl : Cond.methodLink own idx yX2_loseSight ∈ W0) (hR : rm_X2_loseSight.frames + 1 ≤ R.frames ∧ 8 + (5 + 11) + rm_X2_loseSight.locals ≤ R.locals) : CallW R s args own RX2 idx yX2_loseSight cX2_loseSight 5 (none) (Cond.code yX2_loseSight cX2_loseSight 5 (none) :: W0) rm_X2_loseSight 0 0 2 := cwV 2 hts (gdV hl mi_yX2_loseSight ms_yX2_loseSight mini_X2 mc_yX2_loseSight) rfl rfl rfl (by decide +kernel) hR

theorem loseSight_g {σ : Nat → Nat → Int32} {x y : Int32} (f : Nat) (hf : f ≠ 13) : ∀ (fu k : Nat) (z : Int32) (ω : Nat → Nat → Int32), g_X2_loseSight_10 σ x y fu k z ω f = ω f := by
  intro fu
  induction fu with
  | zero => intro k z ω; rfl
  | succ fu ih =>
    intro k z ω
    rw [g_X2_loseSight_10]
    (repeat' split) <;> first | rfl | exact ih .. | (rw [ih]; exact if_neg hf)
theorem loseSight_13 {σ : Nat → Nat → Int32} {x y : Int32} : ∀ (fu k : Nat) (z : Int32) (ω : Nat → Nat → Int32) (j : Nat), g_X2_loseSight_10 σ x y fu k z ω 13 j = 1 → ω 13 j = 1 := by
  intro fu
  induction fu with
  | zero => intro k z ω j h; exact h
  | succ fu ih =>
    intro k z ω j h
    rw [g_X2_loseSight_10] at h
    (repeat' split at h) <;> first | exact h | exact ih _ _ _ _ h | exact shU_13 (by decide) (ih _ _ _ _ h)
theorem loseSight_ok {σ : Nat → Nat → Int32} (hok : okS σ) (x y : Int32) : okS (s_X2_loseSight σ x y) :=
  okS_of hok (loseSight_g 1 (by decide) _ _ _ _) (loseSight_g 2 (by decide) _ _ _ _) (loseSight_g 3 (by decide) _ _ _ _) (loseSight_g 10 (by decide) _ _ _ _) (loseSight_g 14 (by decide) _ _ _ _) (fun j h => loseSight_13 _ _ _ _ j h)

/-! X2.findAgain -/
def g_X2_findAgain_5 (σ : Nat → Nat → Int32) (x : Int32) (y : Int32) : Nat → (Nat) → (Int32) → (Nat → Nat → Int32) → (Nat → Nat → Int32)
  | 0, k, x3, ω => ω
  | fu + 1, k, x3, ω => (if nN σ ≤ k then ω else (if x3 ≤ 0 then ω else (if (ω 10 k) = x then (if (ω 13 k) = 4 then g_X2_findAgain_5 σ x y fu (k + 1) (x3 - 1) (shU ω 13 k 0) else g_X2_findAgain_5 σ x y fu (k + 1) x3 ω) else g_X2_findAgain_5 σ x y fu (k + 1) x3 ω)))
def s_X2_findAgain (σ : Nat → Nat → Int32) (x : Int32) (y : Int32) : Nat → Nat → Int32 := (g_X2_findAgain_5 σ x y (nN σ + 1) 0 y σ)
abbrev rm_X2_findAgain : Room := { frames := 0, cells := 0, slots := 0, locals := 0 }
set_option maxRecDepth 100000 in
theorem c_X2_findAgain (l : Launch) (D : va_G) (cI : ClassId) (o : Nat) (a : Nat → Nat) (σ : Nat → Nat → Int32) (x : Int32) (y : Int32) (hok : okS σ) :
    Met l yX2_findAgain (Cond.code yX2_findAgain cX2_findAgain 5 (none) :: W0) rm_X2_findAgain (va_Pc [.ref o, .int x, .int y] (shM D cI o a σ)) (shV D cI o a (s_X2_findAgain σ x y)) 0 0 (shA o a) := by
  refine st_gen (cc := cX2_findAgain) (maxL := 5) (ret := none) (own := RX2) (by decide) rfl (Nat.le_of_ble_eq_true rfl) ?_
  intro p e s m below meth c ls C hPre hl
  obtain ⟨hx, hb, hr, hml, hown, hts, hlk⟩ := C
  obtain ⟨⟨hP, hK⟩, hD⟩ := hPre
  have hS : va_S (shA o a) s.heap s.heap [] := va_S.rf
  have hl : lv_has ls 5 [(0, .ref (o)), (1, .int (x)), (2, .int (y))] := hl
  obtain ⟨hT6, hC6, hN6⟩ := okS_b hok
  refine lv_iload_n hx hb dX2_findAgain_0 rfl (lv_at hl 2 rfl) ?_
  refine lv_istore_n (lv' := [(3, .int (y)), (0, .ref (o)), (1, .int (x)), (2, .int (y))]) hx hb dX2_findAgain_1 rfl hl (by decide) rfl (fun ls hl => ?_)
  refine lv_iconst (v := 0) hx hb dX2_findAgain_2 (by decide) ?_
  refine lv_istore (lv' := [(4, .int (0)), (3, .int (y)), (0, .ref (o)), (1, .int (x)), (2, .int (y))]) hx hb dX2_findAgain_3 hl (by decide) rfl (fun ls hl => ?_)
  have K_57 : ∀ (H : Heap) (locs : List Loc), va_P D vwCl (shW cI o a (g_X2_findAgain_5 σ x y (nN σ + 1) 0 y σ)) H → va_S (shA o a) s.heap H locs → ∀ ls, lv_has ls 5 [(0, .ref (o)), (1, .int (x)), (2, .int (y))] → W p l e rm_X2_findAgain s m (([.ref (o), .int (x), .int (y)] : List Value).toArray) below meth c H locs 0 0 (MQ below (shV D cI o a (s_X2_findAgain σ x y)) ([.ref (o), .int (x), .int (y)] : List Value).toArray s 0 0 (shA o a)) (F0 m 57 ls []) := by
    intro H locs hP hS ls hl
    exact sh_finV hx hb hr hlk hK hP hS rfl dX2_findAgain_57
  have L_5 : ∀ (fu : Nat) (k : Nat) (x3 : Int32) (ω : Nat → Nat → Int32), nN σ - k < fu → k ≤ nN σ → ω 3 0 = nI (nN σ) → g_X2_findAgain_5 σ x y fu k x3 ω = g_X2_findAgain_5 σ x y (nN σ + 1) 0 y σ → ∀ (H : Heap) (locs : List Loc), va_P D vwCl (shW cI o a ω) H → va_S (shA o a) s.heap H locs → ∀ ls, lv_has ls 5 [(0, .ref (o)), (1, .int (x)), (2, .int (y)), (4, .int (nI k)), (3, .int (x3))] → W p l e rm_X2_findAgain s m (([.ref (o), .int (x), .int (y)] : List Value).toArray) below meth c H locs 0 0 (MQ below (shV D cI o a (s_X2_findAgain σ x y)) ([.ref (o), .int (x), .int (y)] : List Value).toArray s 0 0 (shA o a)) (F0 m 5 ls []) := by
    intro fu
    induction fu with
    | zero => intro k x3 ω hm; exact absurd hm (Nat.not_lt_zero _)
    | succ fu ih =>
      intro k x3 ω hm hkN hc hg_5 H locs hP hS ls hl
      refine lv_iload hx hb dX2_findAgain_5 (lv_at hl 3 rfl) ?_
      refine lv_aload_n hx hb dX2_findAgain_7 rfl (lv_at hl 0 rfl) ?_
      refine sh_g3 hx hb hts hown hK hP (v := ω 3 0) rfl dX2_findAgain_8 ?_
      refine lv_icmp_geN (k) (nN σ) hx hb rfl hc (by omega) (by omega) (tgt := 57) dX2_findAgain_11 (by decide) (fun c_11 => ?_) (fun c_11 => ?_)
      · have ex : ω = g_X2_findAgain_5 σ x y (nN σ + 1) 0 y σ := ((br_p c_11 rfl) : ω = g_X2_findAgain_5 σ x y (fu + 1) k x3 ω).trans hg_5
        exact K_57 _ _ (by rw [← ex]; exact hP) hS ls (lv_sub hl [0, 1, 2] rfl)
      refine lv_iload_n hx hb dX2_findAgain_14 rfl (lv_at hl 4 rfl) ?_
      refine lv_if_le (tgt := 57) hx hb dX2_findAgain_15 (by decide) (fun c_15 => ?_) (fun c_15 => ?_)
      · have ex : ω = g_X2_findAgain_5 σ x y (nN σ + 1) 0 y σ := ((br_n c_11 (br_p c_15 rfl)) : ω = g_X2_findAgain_5 σ x y (fu + 1) k x3 ω).trans hg_5
        exact K_57 _ _ (by rw [← ex]; exact hP) hS ls (lv_sub hl [0, 1, 2] rfl)
      refine lv_aload_n hx hb dX2_findAgain_18 rfl (lv_at hl 0 rfl) ?_
      refine sh_g10 hx hb hts hown hK hP dX2_findAgain_19 ?_
      refine lv_iload hx hb dX2_findAgain_22 (lv_at hl 3 rfl) ?_
      refine sh_r10 hx hb hK hP (k) rfl (by omega) (v := ω 10 k) rfl dX2_findAgain_24 ?_
      refine lv_iload_n hx hb dX2_findAgain_25 rfl (lv_at hl 1 rfl) ?_
      refine lv_icmp_ne (tgt := 51) hx hb dX2_findAgain_26 (by decide) (fun c_26 => ?_) (fun c_26 => ?_)
      · refine lv_iinc (v := nI (k + 1)) (lv' := [(4, .int (nI (k + 1))), (0, .ref (o)), (1, .int (x)), (2, .int (y)), (3, .int (x3))]) hx hb dX2_findAgain_51 hl (k := 3) rfl (nI_c1 _) (by decide) rfl (fun ls hl => ?_)
        refine lv_goto (tgt := 5) hx hb dX2_findAgain_54 (by decide) ?_
        exact ih (k + 1) x3 ω (by omega) (by omega) hc (((br_n c_11 (br_n c_15 (br_n c_26 rfl))) : g_X2_findAgain_5 σ x y fu (k + 1) x3 ω = g_X2_findAgain_5 σ x y (fu + 1) k x3 ω).trans hg_5) _ _ hP hS ls (lv_sub hl [1, 2, 3, 0, 4] rfl)
      refine lv_aload_n hx hb dX2_findAgain_29 rfl (lv_at hl 0 rfl) ?_
      refine sh_g13 hx hb hts hown hK hP dX2_findAgain_30 ?_
      refine lv_iload hx hb dX2_findAgain_33 (lv_at hl 3 rfl) ?_
      refine sh_r13 hx hb hK hP (k) rfl (by omega) (v := ω 13 k) rfl dX2_findAgain_35 ?_
      refine lv_iconst (v := 4) hx hb dX2_findAgain_36 (by decide) ?_
      refine lv_icmp_ne (tgt := 51) hx hb dX2_findAgain_37 (by decide) (fun c_37 => ?_) (fun c_37 => ?_)
      · refine lv_iinc (v := nI (k + 1)) (lv' := [(4, .int (nI (k + 1))), (0, .ref (o)), (1, .int (x)), (2, .int (y)), (3, .int (x3))]) hx hb dX2_findAgain_51 hl (k := 3) rfl (nI_c1 _) (by decide) rfl (fun ls hl => ?_)
        refine lv_goto (tgt := 5) hx hb dX2_findAgain_54 (by decide) ?_
        exact ih (k + 1) x3 ω (by omega) (by omega) hc (((br_n c_11 (br_n c_15 (br_p c_26 (br_n c_37 rfl)))) : g_X2_findAgain_5 σ x y fu (k + 1) x3 ω = g_X2_findAgain_5 σ x y (fu + 1) k x3 ω).trans hg_5) _ _ hP hS ls (lv_sub hl [1, 2, 3, 0, 4] rfl)
      refine lv_aload_n hx hb dX2_findAgain_40 rfl (lv_at hl 0 rfl) ?_
      refine sh_g13 hx hb hts hown hK hP dX2_findAgain_41 ?_
      refine lv_iload hx hb dX2_findAgain_44 (lv_at hl 3 rfl) ?_
      refine lv_iconst (v := 0) hx hb dX2_findAgain_46 (by decide) ?_
      refine sh_w13 hx hb hK hP hD hS (k) rfl (by omega) dX2_findAgain_47 (fun H locs hP hS => ?_)
      refine lv_iinc (v := x3 - 1) (lv' := [(3, .int (x3 - 1)), (0, .ref (o)), (1, .int (x)), (2, .int (y)), (4, .int (nI k))]) hx hb dX2_findAgain_48 hl (k := 4) rfl (iinc_m _) (by decide) rfl (fun ls hl => ?_)
      refine lv_iinc (v := nI (k + 1)) (lv' := [(4, .int (nI (k + 1))), (3, .int (x3 - 1)), (0, .ref (o)), (1, .int (x)), (2, .int (y))]) hx hb dX2_findAgain_51 hl (k := 4) rfl (nI_c1 _) (by decide) rfl (fun ls hl => ?_)
      refine lv_goto (tgt := 5) hx hb dX2_findAgain_54 (by decide) ?_
      exact ih (k + 1) (x3 - 1) (shU ω 13 k 0) (by omega) (by omega) hc (((br_n c_11 (br_n c_15 (br_p c_26 (br_p c_37 rfl)))) : g_X2_findAgain_5 σ x y fu (k + 1) (x3 - 1) (shU ω 13 k 0) = g_X2_findAgain_5 σ x y (fu + 1) k x3 ω).trans hg_5) _ _ hP hS ls (lv_sub hl [2, 3, 4, 0, 1] rfl)
  exact L_5 (nN σ + 1) 0 y σ (by omega) (by omega) (okS_3 hok) rfl _ _ hP hS ls (lv_sub hl [2, 3, 4, 0, 1] rfl)
theorem kV_X2_findAgain {R : Room} {s : State} {args : Array Value} {own : String} {idx : Nat} {c0 : Cond} (hts : ∀ w ∈ c0 :: W0, w.before args s = true) (hl : Cond.methodLink own idx yX2_findAgain ∈ W0) (hR : rm_X2_findAgain.frames + 1 ≤ R.frames ∧ 8 + (5 + 11) + rm_X2_findAgain.locals ≤ R.locals) : CallW R s args own RX2 idx yX2_findAgain cX2_findAgain 5 (none) (Cond.code yX2_findAgain cX2_findAgain 5 (none) :: W0) rm_X2_findAgain 0 0 2 := cwV 2 hts (gdV hl mi_yX2_findAgain ms_yX2_findAgain mini_X2 mc_yX2_findAgain) rfl rfl rfl (by decide +kernel) hR

/-! X2.countShelf -/
def m_X2_countShelf (σ : Nat → Nat → Int32) (x : Int32) (y : Int32) : Int32 × (Nat → Nat → Int32) := (if (f_X2_hasTitle σ x) = 0 then ((-2), σ) else (if (f_X2_isBetween y 0 60) = 0 then ((-3), σ) else (if y ≤ ((f_X2_copiesOfIn σ x 0) + (f_X2_copiesOfIn σ x 4)) then (((f_X2_copiesOfIn σ x 0) + (f_X2_copiesOfIn σ x 4)) - y, (s_X2_findAgain (s_X2_loseSight σ x ((f_X2_copiesOfIn σ x 0) - y)) x (y - (f_X2_copiesOfIn σ x 0)))) else ((-4), σ))))
abbrev rm_X2_countShelf : Room := { frames := 2, cells := 0, slots := 0, locals := 43 }
set_option maxRecDepth 100000 in
theorem c_X2_countShelf (l : Launch) (D : va_G) (cI : ClassId) (o : Nat) (a : Nat → Nat) (σ : Nat → Nat → Int32) (x : Int32) (y : Int32) (hok : okS σ) :
    Met l yX2_countShelf (Cond.code yX2_countShelf cX2_countShelf 5 (some .int) :: W0) rm_X2_countShelf (va_Pc [.ref o, .int x, .int y] (shM D cI o a σ)) (shQ D cI o a (m_X2_countShelf σ x y)) 0 0 (shA o a) := by
  refine st_gen (cc := cX2_countShelf) (maxL := 5) (ret := some .int) (own := RX2) (by decide) rfl (Nat.le_of_ble_eq_true rfl) ?_
  intro p e s m below meth c ls C hPre hl
  obtain ⟨hx, hb, hr, hml, hown, hts, hlk⟩ := C
  obtain ⟨⟨hP, hK⟩, hD⟩ := hPre
  have hS : va_S (shA o a) s.heap s.heap [] := va_S.rf
  have hl : lv_has ls 5 [(0, .ref (o)), (1, .int (x)), (2, .int (y))] := hl
  obtain ⟨hT6, hC6, hN6⟩ := okS_b hok
  refine lv_aload_n hx hb dX2_countShelf_0 rfl (lv_at hl 0 rfl) ?_
  refine lv_iload_n hx hb dX2_countShelf_1 rfl (lv_at hl 1 rfl) ?_
  refine sh_call (rest := []) hx hb hml hown hts hK hP (c_X2_hasTitle l D cI o a σ x) (kV_X2_hasTitle hts ml_X2_90 ⟨(Nat.le_of_ble_eq_true rfl), (Nat.le_of_ble_eq_true rfl)⟩) rfl hl.1 rfl (Nat.le_of_ble_eq_true rfl) dX2_countShelf_2 (Nat.zero_le _) (Nat.zero_le _) ?_
  refine lv_if_ne (tgt := 11) hx hb dX2_countShelf_5 (by decide) (fun c_5 => ?_) (fun c_5 => ?_)
  · have v_5 := hasTitle_ok (σ := σ) (by with_reducible assumption) c_5
    have vb_5 := v_5.1
    refine lv_iload_n hx hb dX2_countShelf_11 rfl (lv_at hl 2 rfl) ?_
    refine lv_iconst (v := 0) hx hb dX2_countShelf_12 (by decide) ?_
    refine lv_bipush (v := 60) hx hb dX2_countShelf_13 (by decide) ?_
    refine cl_S (rest := []) hx hb hml hown hts (c_X2_isBetween l y 0 60) (kS_X2_isBetween hts ml_X2_93 ⟨(Nat.le_of_ble_eq_true rfl), (Nat.le_of_ble_eq_true rfl)⟩) rfl hl.1 rfl (Nat.le_of_ble_eq_true rfl) dX2_countShelf_15 (Nat.zero_le _) (Nat.zero_le _) ?_
    refine lv_if_ne (tgt := 24) hx hb dX2_countShelf_18 (by decide) (fun c_18 => ?_) (fun c_18 => ?_)
    · have v_18 := btwN 60 c_18 (by decide) rfl (by decide)
      have vb_18 := v_18.1
      refine lv_aload_n hx hb dX2_countShelf_24 rfl (lv_at hl 0 rfl) ?_
      refine lv_iload_n hx hb dX2_countShelf_25 rfl (lv_at hl 1 rfl) ?_
      refine lv_iconst (v := 0) hx hb dX2_countShelf_26 (by decide) ?_
      refine sh_call (rest := []) hx hb hml hown hts hK hP (c_X2_copiesOfIn l D cI o a σ x 0 (by with_reducible assumption)) (kV_X2_copiesOfIn hts ml_X2_122 ⟨(Nat.le_of_ble_eq_true rfl), (Nat.le_of_ble_eq_true rfl)⟩) rfl hl.1 rfl (Nat.le_of_ble_eq_true rfl) dX2_countShelf_27 (Nat.zero_le _) (Nat.zero_le _) ?_
      refine lv_istore_n (lv' := [(3, .int ((f_X2_copiesOfIn σ x 0))), (0, .ref (o)), (1, .int (x)), (2, .int (y))]) hx hb dX2_countShelf_30 rfl hl (by decide) rfl (fun ls hl => ?_)
      refine lv_aload_n hx hb dX2_countShelf_31 rfl (lv_at hl 1 rfl) ?_
      refine lv_iload_n hx hb dX2_countShelf_32 rfl (lv_at hl 2 rfl) ?_
      refine lv_iconst (v := 4) hx hb dX2_countShelf_33 (by decide) ?_
      refine sh_call (rest := []) hx hb hml hown hts hK hP (c_X2_copiesOfIn l D cI o a σ x 4 (by with_reducible assumption)) (kV_X2_copiesOfIn hts ml_X2_122 ⟨(Nat.le_of_ble_eq_true rfl), (Nat.le_of_ble_eq_true rfl)⟩) rfl hl.1 rfl (Nat.le_of_ble_eq_true rfl) dX2_countShelf_34 (Nat.zero_le _) (Nat.zero_le _) ?_
      refine lv_istore (lv' := [(4, .int ((f_X2_copiesOfIn σ x 4))), (3, .int ((f_X2_copiesOfIn σ x 0))), (0, .ref (o)), (1, .int (x)), (2, .int (y))]) hx hb dX2_countShelf_37 hl (by decide) rfl (fun ls hl => ?_)
      refine lv_iload_n hx hb dX2_countShelf_39 rfl (lv_at hl 4 rfl) ?_
      refine lv_iload_n hx hb dX2_countShelf_40 rfl (lv_at hl 1 rfl) ?_
      refine lv_iload hx hb dX2_countShelf_41 (lv_at hl 0 rfl) ?_
      refine lv_iadd hx hb dX2_countShelf_43 ?_
      refine lv_icmp_le (tgt := 50) hx hb dX2_countShelf_44 (by decide) (fun c_44 => ?_) (fun c_44 => ?_)
      · refine lv_aload_n hx hb dX2_countShelf_50 rfl (lv_at hl 2 rfl) ?_
        refine lv_iload_n hx hb dX2_countShelf_51 rfl (lv_at hl 3 rfl) ?_
        refine lv_iload_n hx hb dX2_countShelf_52 rfl (lv_at hl 1 rfl) ?_
        refine lv_iload_n hx hb dX2_countShelf_53 rfl (lv_at hl 4 rfl) ?_
        refine lv_isub hx hb dX2_countShelf_54 ?_
        refine sh_callV (rest := []) hx hb hml hown hts hK hP hD hS (c_X2_loseSight l D cI o a σ x ((f_X2_copiesOfIn σ x 0) - y) (by with_reducible assumption)) (kV_X2_loseSight hts ml_X2_203 ⟨(Nat.le_of_ble_eq_true rfl), (Nat.le_of_ble_eq_true rfl)⟩) rfl hl.1 rfl (Nat.le_of_ble_eq_true rfl) dX2_countShelf_55 (Nat.zero_le _) (Nat.zero_le _) (fun H locs hP hS => ?_)
        have hok2 := loseSight_ok hok x (f_X2_copiesOfIn σ x 0 - y)
        refine lv_aload_n hx hb dX2_countShelf_58 rfl (lv_at hl 2 rfl) ?_
        refine lv_iload_n hx hb dX2_countShelf_59 rfl (lv_at hl 3 rfl) ?_
        refine lv_iload_n hx hb dX2_countShelf_60 rfl (lv_at hl 4 rfl) ?_
        refine lv_iload_n hx hb dX2_countShelf_61 rfl (lv_at hl 1 rfl) ?_
        refine lv_isub hx hb dX2_countShelf_62 ?_
        refine sh_callV (rest := []) hx hb hml hown hts hK hP hD hS (c_X2_findAgain l D cI o a (s_X2_loseSight σ x ((f_X2_copiesOfIn σ x 0) - y)) x (y - (f_X2_copiesOfIn σ x 0)) (by with_reducible assumption)) (kV_X2_findAgain hts ml_X2_207 ⟨(Nat.le_of_ble_eq_true rfl), (Nat.le_of_ble_eq_true rfl)⟩) rfl hl.1 rfl (Nat.le_of_ble_eq_true rfl) dX2_countShelf_63 (Nat.zero_le _) (Nat.zero_le _) (fun H locs hP hS => ?_)
        refine lv_iload_n hx hb dX2_countShelf_66 rfl (lv_at hl 1 rfl) ?_
        refine lv_iload hx hb dX2_countShelf_67 (lv_at hl 0 rfl) ?_
        refine lv_iadd hx hb dX2_countShelf_69 ?_
        refine lv_iload_n hx hb dX2_countShelf_70 rfl (lv_at hl 4 rfl) ?_
        refine lv_isub hx hb dX2_countShelf_71 ?_
        exact sh_finM hx hb hr hlk hK hP hS (br_n c_5 (br_n c_18 (br_p c_44 rfl))) dX2_countShelf_72
      refine lv_bipush (v := (-4)) hx hb dX2_countShelf_47 (by decide) ?_
      exact sh_finM hx hb hr hlk hK hP hS (br_n c_5 (br_n c_18 (br_n c_44 rfl))) dX2_countShelf_49
    refine lv_bipush (v := (-3)) hx hb dX2_countShelf_21 (by decide) ?_
    exact sh_finM hx hb hr hlk hK hP hS (br_n c_5 (br_p c_18 rfl)) dX2_countShelf_23
  refine lv_bipush (v := (-2)) hx hb dX2_countShelf_8 (by decide) ?_
  exact sh_finM hx hb hr hlk hK hP hS (br_p c_5 rfl) dX2_countShelf_10
theorem kV_X2_countShelf {R : Room} {s : State} {args : Array Value} {own : String} {idx : Nat} {c0 : Cond} (hts : ∀ w ∈ c0 :: W0, w.before args s = true) (hl : Cond.methodLink own idx yX2_countShelf ∈ W0) (hR : rm_X2_countShelf.frames + 1 ≤ R.frames ∧ 8 + (5 + 11) + rm_X2_countShelf.locals ≤ R.locals) : CallW R s args own RX2 idx yX2_countShelf cX2_countShelf 5 (some .int) (Cond.code yX2_countShelf cX2_countShelf 5 (some .int) :: W0) rm_X2_countShelf 0 0 2 := cwV 2 hts (gdV hl mi_yX2_countShelf ms_yX2_countShelf mini_X2 mc_yX2_countShelf) rfl rfl rfl (by decide +kernel) hR

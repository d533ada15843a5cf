/-! ===== the shop's state and the model's row ===== -/
theorem i_sub {a b : Int32} (h1 : -1000000000 ≤ a.toInt) (h2 : a.toInt ≤ 1000000000) (h3 : -1000000000 ≤ b.toInt) (h4 : b.toInt ≤ 1000000000) : (a - b).toInt = a.toInt - b.toInt := by
  rw [Int32.toInt_sub]
  exact Int.bmod_eq_of_le (by omega) (by omega)
theorem i_add {a b : Int32} (h1 : -1000000000 ≤ a.toInt) (h2 : a.toInt ≤ 1000000000) (h3 : -1000000000 ≤ b.toInt) (h4 : b.toInt ≤ 1000000000) : (a + b).toInt = a.toInt + b.toInt := by
  rw [Int32.toInt_add]
  exact Int.bmod_eq_of_le (by omega) (by omega)
def bnd (x : Int32) (a b : Int) : Prop := a ≤ x.toInt ∧ x.toInt ≤ b
/-- where the model's row keeps a place of the shop's field -/
def plS (f i : Nat) : Nat := match f with
  | 0 => 3 | 1 => 0 | 2 => 2 | 3 => 1 | 4 => 4 + i | 5 => 23 + 2 * i | 6 => 23 + 2 * i + 1 | 7 => 35 + 3 * i | 8 => 35 + 3 * i + 1 | 9 => 35 + 3 * i + 2
  | 10 => 53 + 6 * i | 11 => 53 + 6 * i + 1 | 12 => 53 + 6 * i + 2 | 13 => 53 + 6 * i + 3 | 16 => 8 + i | 17 => 15 + i | _ => 0
def lnS (f : Nat) : Nat := match f with
  | 0 => 1 | 1 => 1 | 2 => 1 | 3 => 1 | 4 => 4 | 5 => 6 | 6 => 6 | 7 => 6 | 8 => 6 | 9 => 6 | 10 => 60 | 11 => 60 | 12 => 60 | 13 => 60 | 16 => 7 | 17 => 8 | _ => 0
def bok (f i : Nat) (x : Int32) : Prop := match f with
  | 0 => bnd x 0 100000 | 4 => (i = 0 → bnd x 0 200) ∧ (i = 1 → bnd x 0 200) ∧ (i = 2 → bnd x 1 60) ∧ (i = 3 → bnd x 0 50) | 5 => bnd x 0 20000 | 6 => bnd x 0 30 | 9 => bnd x 0 200 | 11 => bnd x 0 30 | 12 => bnd x 0 4 | 13 => bnd x 0 4 | 15 => bnd x 0 100200 | _ => True
def eqR (σ : Nat → Nat → Int32) (r : Nat → Int32) : Prop := ∀ f i, i < lnS f → r (plS f i) = σ f i
def whR (σ : Nat → Nat → Int32) (r : Nat → Int32) : Prop := ∀ k, k < nN σ → (σ 13 k = 1 → r (53 + 6 * k + 4) = σ 14 k ∧ r (53 + 6 * k + 5) = σ 15 k) ∧ (σ 13 k ≠ 1 → r (53 + 6 * k + 4) = -1 ∧ r (53 + 6 * k + 5) = -1)
def bdR (σ : Nat → Nat → Int32) : Prop := ∀ f i, bok f i (σ f i)
def rl (σ : Nat → Nat → Int32) (r : Nat → Int32) : Prop := okS σ ∧ eqR σ r ∧ whR σ r ∧ bdR σ
section RL
variable {σ : Nat → Nat → Int32} {μ : Nat → Nat → Int32}
theorem rl_ok {r : Nat → Int32} (h : rl σ r) : okS σ := h.1
theorem rl_e0 (h : rl σ (μ 0)) : μ 0 0 = σ 1 0 := h.2.1 1 0 (by decide)
theorem rl_e1 (h : rl σ (μ 0)) : μ 0 1 = σ 3 0 := h.2.1 3 0 (by decide)
theorem rl_e2 (h : rl σ (μ 0)) : μ 0 2 = σ 2 0 := h.2.1 2 0 (by decide)
theorem rl_day (h : rl σ (μ 0)) : μ 0 3 = σ 0 0 := h.2.1 0 0 (by decide)
theorem rl_T (h : rl σ (μ 0)) : mT μ = nT σ := congrArg tn (rl_e0 h)
theorem rl_N (h : rl σ (μ 0)) : mN μ = nN σ := congrArg tn (rl_e1 h)
theorem rl_C (h : rl σ (μ 0)) : mC μ = nC σ := congrArg tn (rl_e2 h)
theorem rl_set (h : rl σ (μ 0)) {k : Nat} (hk : k < 4) : μ 0 (4 + k) = σ 4 k := h.2.1 4 k hk
theorem rl_set5 (h : rl σ (μ 0)) : μ 0 5 = σ 4 1 := h.2.1 4 1 (by decide)
theorem rl_set6 (h : rl σ (μ 0)) : μ 0 6 = σ 4 2 := h.2.1 4 2 (by decide)
theorem rl_set7 (h : rl σ (μ 0)) : μ 0 7 = σ 4 3 := h.2.1 4 3 (by decide)
theorem rl_sum (h : rl σ (μ 0)) {k : Nat} (hk : k < 7) : μ 0 (8 + k) = σ 16 k := h.2.1 16 k hk
theorem rl_chg (h : rl σ (μ 0)) {k : Nat} (hk : k < 8) : μ 0 (15 + k) = σ 17 k := h.2.1 17 k hk
theorem rl_price (h : rl σ (μ 0)) {t : Nat} (ht : t < 6) : f_X4_price μ t = σ 5 t := h.2.1 5 t ht
theorem rl_cur (h : rl σ (μ 0)) {t : Nat} (ht : t < 6) : f_X4_current μ t = σ 6 t := h.2.1 6 t ht
theorem rl_c0 (h : rl σ (μ 0)) {c : Nat} (hc : c < 6) : f_X4_ofCourse μ c 0 = σ 7 c := h.2.1 7 c hc
theorem rl_c1 (h : rl σ (μ 0)) {c : Nat} (hc : c < 6) : f_X4_ofCourse μ c 1 = σ 8 c := h.2.1 8 c hc
theorem rl_c2 (h : rl σ (μ 0)) {c : Nat} (hc : c < 6) : f_X4_ofCourse μ c 2 = σ 9 c := h.2.1 9 c hc
theorem rl_o0 (h : rl σ (μ 0)) {k : Nat} (hk : k < 60) : f_X4_of μ k 0 = σ 10 k := h.2.1 10 k hk
theorem rl_o1 (h : rl σ (μ 0)) {k : Nat} (hk : k < 60) : f_X4_of μ k 1 = σ 11 k := h.2.1 11 k hk
theorem rl_o2 (h : rl σ (μ 0)) {k : Nat} (hk : k < 60) : f_X4_of μ k 2 = σ 12 k := h.2.1 12 k hk
theorem rl_o3 (h : rl σ (μ 0)) {k : Nat} (hk : k < 60) : f_X4_of μ k 3 = σ 13 k := h.2.1 13 k hk
theorem rl_o4 (h : rl σ (μ 0)) {k : Nat} (hk : k < nN σ) (h1 : σ 13 k = 1) : f_X4_of μ k 4 = σ 14 k := ((h.2.2.1 k hk).1 h1).1
theorem rl_o5 (h : rl σ (μ 0)) {k : Nat} (hk : k < nN σ) (h1 : σ 13 k = 1) : f_X4_of μ k 5 = σ 15 k := ((h.2.2.1 k hk).1 h1).2
theorem rl_n4 (h : rl σ (μ 0)) {k : Nat} (hk : k < nN σ) (h1 : σ 13 k ≠ 1) : f_X4_of μ k 4 = -1 := ((h.2.2.1 k hk).2 h1).1
theorem rl_n5 (h : rl σ (μ 0)) {k : Nat} (hk : k < nN σ) (h1 : σ 13 k ≠ 1) : f_X4_of μ k 5 = -1 := ((h.2.2.1 k hk).2 h1).2
theorem rl_b0 {r : Nat → Int32} (h : rl σ r) : bnd (σ 0 0) 0 100000 := h.2.2.2 0 0
theorem rl_b40 {r : Nat → Int32} (h : rl σ r) : bnd (σ 4 0) 0 200 := (h.2.2.2 4 0).1 rfl
theorem rl_b42 {r : Nat → Int32} (h : rl σ r) : bnd (σ 4 2) 1 60 := (h.2.2.2 4 2).2.2.1 rfl
theorem rl_b41 {r : Nat → Int32} (h : rl σ r) : bnd (σ 4 1) 0 200 := (h.2.2.2 4 1).2.1 rfl
theorem rl_b43 {r : Nat → Int32} (h : rl σ r) : bnd (σ 4 3) 0 50 := (h.2.2.2 4 3).2.2.2 rfl
theorem rl_b5 {r : Nat → Int32} (h : rl σ r) (t : Nat) : bnd (σ 5 t) 0 20000 := h.2.2.2 5 t
theorem rl_b12 {r : Nat → Int32} (h : rl σ r) (k : Nat) : bnd (σ 12 k) 0 4 := h.2.2.2 12 k
theorem rl_b6 {r : Nat → Int32} (h : rl σ r) {t : Nat} (ht : t < 6) : bnd (σ 6 t) 0 30 := h.2.2.2 6 t
theorem rl_b9 {r : Nat → Int32} (h : rl σ r) {t : Nat} (ht : t < 6) : bnd (σ 9 t) 0 200 := h.2.2.2 9 t
theorem rl_b11 {r : Nat → Int32} (h : rl σ r) {k : Nat} (hk : k < 60) : bnd (σ 11 k) 0 30 := h.2.2.2 11 k
theorem rl_b13 {r : Nat → Int32} (h : rl σ r) {k : Nat} (hk : k < 60) : bnd (σ 13 k) 0 4 := h.2.2.2 13 k
theorem rl_b15 {r : Nat → Int32} (h : rl σ r) {k : Nat} (hk : k < 60) : bnd (σ 15 k) 0 100200 := h.2.2.2 15 k
theorem rl_60 {r : Nat → Int32} (h : rl σ r) {k : Nat} (hk : k < nN σ) : k < 60 := Nat.lt_of_lt_of_le hk (okS_b h.1).2.2
theorem rl_6 {r : Nat → Int32} (h : rl σ r) {k : Nat} (hk : k < nC σ) : k < 6 := Nat.lt_of_lt_of_le hk (okS_b h.1).2.1
theorem rl_6t {r : Nat → Int32} (h : rl σ r) {k : Nat} (hk : k < nT σ) : k < 6 := Nat.lt_of_lt_of_le hk (okS_b h.1).1
theorem rl_is (h : rl σ (μ 0)) {k : Nat} (hk : k < 60) (x : Int32) : (f_X4_is μ k x = 0) = ¬ (σ 13 k = x) := by
  unfold f_X4_is
  rw [rl_o3 h hk]
  by_cases c : σ 13 k = x
  · rw [if_pos c]; exact propext ⟨fun q => absurd q (by decide), fun q => absurd c q⟩
  · rw [if_neg c]; exact propext ⟨fun _ => c, fun _ => rfl⟩
theorem rl_mt (h : rl σ (μ 0)) {k : Nat} (hk : k < 60) : mt μ k = tOf σ k := congrArg tn (rl_o0 h hk)
theorem rl_mr (h : rl σ (μ 0)) {k : Nat} (hk : k < nN σ) (h1 : σ 13 k = 1) : mr μ k = rOf σ k := congrArg tn (rl_o4 h hk h1)
theorem e_in (x y z : Int32) : f_X4_in x y z = f_X2_isBetween x y z := rfl
theorem e_isT (h : rl σ (μ 0)) (x : Int32) : f_X4_isTitle μ x = f_X2_hasTitle σ x := by unfold f_X4_isTitle f_X2_hasTitle; rw [rl_e0 h]; rfl
theorem e_isC (h : rl σ (μ 0)) (x : Int32) : f_X4_isCourse μ x = f_X2_hasCourse σ x := by unfold f_X4_isCourse f_X2_hasCourse; rw [rl_e2 h]; rfl
theorem e_isK (h : rl σ (μ 0)) (x : Int32) : f_X4_isCopy μ x = f_X2_hasCopy σ x := by unfold f_X4_isCopy f_X2_hasCopy; rw [rl_e1 h]; rfl
theorem e_isU (x : Int32) : f_X4_isCustomer x = f_X2_hasCustomer x := rfl
theorem e_less (a : Int32) : f_X4_lesser 100 a = if a < 100 then a else 100 := by
  unfold f_X4_lesser
  by_cases c : a < 100
  · rw [if_pos c, if_pos (Int32.le_of_lt c)]
  · rw [if_neg c]
    by_cases d : a ≤ 100
    · rw [if_pos d]
      rw [Int32.lt_iff_toInt_lt] at c
      rw [Int32.le_iff_toInt_le] at d
      exact Int32.toInt_inj.mp (by omega)
    · rw [if_neg d]
theorem e_worth (h : rl σ (μ 0)) {t : Nat} (ht : t < 6) {y z c : Int32} (hc : f_X4_current μ t = c) (hb : bnd c 0 31) (hy : bnd y 0 30) : f_X4_worth μ t y z = f_X2_worthBy σ t c y z := by
  unfold f_X4_worth f_X2_worthBy
  rw [rl_price h ht, hc, rl_set7 h, e_less, e_less]
  have e1 : (c - y).toInt = c.toInt - y.toInt := i_sub (by have := hb.1; omega) (by have := hb.2; omega) (by have := hy.1; omega) (by have := hy.2; omega)
  by_cases q : c ≤ y
  · rw [if_pos q]
    have : ¬ 0 < (c - y) := by
      rw [Int32.lt_iff_toInt_lt, e1]
      rw [Int32.le_iff_toInt_le] at q
      have z0 : (0 : Int32).toInt = 0 := by decide
      omega
    rw [if_neg this]
  · rw [if_neg q]
    have : 0 < (c - y) := by
      rw [Int32.lt_iff_toInt_lt, e1]
      rw [Int32.le_iff_toInt_le] at q
      have z0 : (0 : Int32).toInt = 0 := by decide
      omega
    rw [if_pos this]
theorem bnd_w {x : Int32} {a b a' b' : Int} (h : bnd x a b) (h1 : a' ≤ a) (h2 : b ≤ b') : bnd x a' b' := ⟨Int.le_trans h1 h.1, Int.le_trans h.2 h2⟩
theorem e_worthC (h : rl σ (μ 0)) {t : Nat} (ht : t < 6) {y z : Int32} (hy : bnd y 0 30) : f_X4_worth μ t y z = f_X2_worthBy σ t (σ 6 t) y z := e_worth h ht (rl_cur h ht) (bnd_w (rl_b6 h ht) (by decide) (by decide)) hy
theorem tOf_6 {r : Nat → Int32} (h : rl σ r) {k : Nat} (hk : k < nN σ) : tOf σ k < 6 := (okS_t h.1 hk).2
theorem e_worthOf (h : rl σ (μ 0)) {k : Nat} (hk : k < nN σ) : f_X4_worthOf μ k = f_X2_worthOf σ k := by
  have k6 := rl_60 h hk
  unfold f_X4_worthOf f_X2_worthOf
  rw [rl_mt h k6, rl_o1 h k6, rl_o2 h k6]
  exact e_worthC h (tOf_6 h hk) (rl_b11 h k6)
theorem e_late (h : rl σ (μ 0)) {k : Nat} (hk : k < nN σ) : f_X4_late μ k = if σ 13 k = 1 then f_X2_daysLate σ k else 0 := by
  have k6 := rl_60 h hk
  unfold f_X4_late f_X2_daysLate
  by_cases c : σ 13 k = 1
  · have e1 : ((σ 0 0) - (σ 15 k)).toInt = (σ 0 0).toInt - (σ 15 k).toInt := i_sub (by have := (rl_b0 h).1; omega) (by have := (rl_b0 h).2; omega) (by have := (rl_b15 h k6).1; omega) (by have := (rl_b15 h k6).2; omega)
    rw [if_neg (show ¬ f_X4_is μ k 1 = 0 by rw [rl_is h k6]; exact fun q => q c), if_pos c, rl_o5 h hk c, rl_day h]
    have z0 : (0 : Int32).toInt = 0 := by decide
    by_cases q : σ 0 0 ≤ σ 15 k
    · rw [if_pos q, if_neg]
      rw [Int32.lt_iff_toInt_lt, e1]
      rw [Int32.le_iff_toInt_le] at q
      omega
    · rw [if_neg q, if_pos]
      rw [Int32.lt_iff_toInt_lt, e1]
      rw [Int32.le_iff_toInt_le] at q
      omega
  · rw [if_pos (show f_X4_is μ k 1 = 0 by rw [rl_is h k6]; exact c), if_neg c]
theorem q_inState (h : rl σ (μ 0)) (x : Int32) : f_X4_inState μ x = f_X2_copiesIn σ x := by
  unfold f_X2_copiesIn f_X4_inState
  rw [rl_N h]
  have g : ∀ (fu k : Nat) (a : Int32), g_X4_inState_4 μ x fu k a = g_X2_copiesIn_4 σ x fu k a := by
    intro fu
    induction fu with
    | zero => intro k a; rfl
    | succ fu ih =>
      intro k a
      rw [g_X2_copiesIn_4, g_X4_inState_4, rl_N h]
      by_cases c : nN σ ≤ k
      · rw [if_pos c, if_pos c]
      · have k6 := rl_60 h (Nat.lt_of_not_le c)
        simp only [if_neg c, rl_is h k6, ite_not, Int32.add_zero, ih]
  exact g _ _ _
theorem q_ofTitleN (h : rl σ (μ 0)) (x : Int32) : f_X4_ofTitle μ x (-1) = f_X2_copiesOf σ x := by
  unfold f_X2_copiesOf f_X4_ofTitle
  rw [rl_N h]
  have g : ∀ (fu k : Nat) (a : Int32), g_X4_ofTitle_5 μ x (-1) fu k a = g_X2_copiesOf_4 σ x fu k a := by
    intro fu
    induction fu with
    | zero => intro k a; rfl
    | succ fu ih =>
      intro k a
      rw [g_X4_ofTitle_5, g_X2_copiesOf_4, rl_N h]
      by_cases c : nN σ ≤ k
      · rw [if_pos c, if_pos c]
      · have k6 := rl_60 h (Nat.lt_of_not_le c)
        simp only [if_neg c, rl_o0 h k6, if_true, Int32.add_zero, ih]
  exact g _ _ _
theorem q_ofTitle (h : rl σ (μ 0)) (x y : Int32) (hy : y ≠ -1) : f_X4_ofTitle μ x y = f_X2_copiesOfIn σ x y := by
  unfold f_X2_copiesOfIn f_X4_ofTitle
  rw [rl_N h]
  have g : ∀ (fu k : Nat) (a : Int32), g_X4_ofTitle_5 μ x y fu k a = g_X2_copiesOfIn_5 σ x y fu k a := by
    intro fu
    induction fu with
    | zero => intro k a; rfl
    | succ fu ih =>
      intro k a
      rw [g_X4_ofTitle_5, g_X2_copiesOfIn_5, rl_N h]
      by_cases c : nN σ ≤ k
      · rw [if_pos c, if_pos c]
      · have k6 := rl_60 h (Nat.lt_of_not_le c)
        simp only [if_neg c, rl_o0 h k6, rl_is h k6, ite_not, if_neg hy, Int32.add_zero, ih]
  exact g _ _ _
theorem tk2 (j : Nat) (y z : Int32) : (f_X2_takes σ j y z = 0) = ¬ (σ 7 j = y ∧ ¬ z < σ 8 j) := by
  unfold f_X2_takes
  by_cases c : σ 7 j = y
  · by_cases d : z < σ 8 j <;> simp [c, d]
  · simp [c]
theorem tk4 (h : rl σ (μ 0)) {j k : Nat} (hj : j < 6) (hk : k < 60) : (f_X4_takes μ j k = 0) = ¬ (σ 13 k = 0 ∧ σ 7 j = σ 10 k ∧ ¬ σ 11 k < σ 8 j) := by
  unfold f_X4_takes
  rw [rl_o0 h hk, rl_o1 h hk, rl_c0 h hj, rl_c1 h hj]
  by_cases a : σ 13 k = 0
  · rw [if_neg (by rw [rl_is h hk]; exact fun q => q a)]
    by_cases c : σ 10 k = σ 7 j
    · by_cases d : σ 11 k < σ 8 j <;> simp [a, c, d]
    · have c2 : ¬ σ 7 j = σ 10 k := fun q => c q.symm
      simp [a, c, c2]
  · rw [if_pos (by rw [rl_is h hk]; exact a)]
    simp [a]
theorem su2 (k j : Nat) : (f_X2_suits σ k j = 0) = ¬ (σ 7 j = σ 10 k ∧ ¬ σ 11 k < σ 8 j) := tk2 j _ _
theorem q_stockFor (h : rl σ (μ 0)) {j : Nat} (hj : j < 6) (w : Nat) : g_X4_courseNow_17 μ j w (mN μ + 1) 0 0 = f_X2_stockFor σ j := by
  unfold f_X2_stockFor
  rw [rl_N h]
  have g : ∀ (fu k : Nat) (a : Int32), g_X4_courseNow_17 μ j w fu k a = g_X2_stockFor_4 σ j fu k a := by
    intro fu
    induction fu with
    | zero => intro k a; rfl
    | succ fu ih =>
      intro k a
      rw [g_X4_courseNow_17, g_X2_stockFor_4, rl_N h]
      by_cases c : nN σ ≤ k
      · rw [if_pos c, if_pos c]
      · have k6 := rl_60 h (Nat.lt_of_not_le c)
        simp only [if_neg c, tk4 h hj k6, su2, ite_not, Int32.add_zero, ih]
        by_cases a1 : σ 13 k = 0
        · simp [a1]
        · simp [a1]
  exact g _ _ _
theorem q_isOfUse (h : rl σ (μ 0)) (x y : Int32) : f_X4_isOfUse μ x y = f_X2_isOfUse σ x y := by
  unfold f_X4_isOfUse f_X2_isOfUse
  rw [rl_C h]
  have g1 : ∀ (fu k : Nat), g_X4_isOfUse_5 μ x y fu k 1 = 1 := by
    intro fu
    induction fu with
    | zero => intro k; rfl
    | succ fu ih =>
      intro k
      rw [g_X4_isOfUse_5, ih, if_neg (show ¬ (1 : Int32) = 0 by decide), ite_self]
  have g : ∀ (fu k : Nat), g_X4_isOfUse_5 μ x y fu k 0 = g_X2_isOfUse_2 σ x y fu k := by
    intro fu
    induction fu with
    | zero => intro k; rfl
    | succ fu ih =>
      intro k
      rw [g_X4_isOfUse_5, g_X2_isOfUse_2, rl_C h]
      by_cases c : nC σ ≤ k
      · rw [if_pos c, if_pos c]
      · have k6 := rl_6 h (Nat.lt_of_not_le c)
        simp only [if_neg c, if_true, tk2, rl_c0 h k6, rl_c1 h k6, ite_not, g1, ih]
        by_cases a1 : σ 7 k = x
        · by_cases a2 : y < σ 8 k <;> simp [a1, a2]
        · simp [a1]
  exact g _ _
theorem q_supply (h : rl σ (μ 0)) (x : Int32) : f_X4_supply μ x = f_X2_supplyOf σ x := by
  unfold f_X4_supply f_X2_supplyOf
  rw [rl_N h]
  have g : ∀ (fu k : Nat) (a : Int32), g_X4_supply_4 μ x fu k a = g_X2_supplyOf_4 σ x fu k a := by
    intro fu
    induction fu with
    | zero => intro k a; rfl
    | succ fu ih =>
      intro k a
      rw [g_X4_supply_4, g_X2_supplyOf_4, rl_N h]
      by_cases c : nN σ ≤ k
      · rw [if_pos c, if_pos c]
      · have k6 := rl_60 h (Nat.lt_of_not_le c)
        simp only [if_neg c, rl_is h k6, rl_o0 h k6, rl_o1 h k6, q_isOfUse h, ite_not, Int32.add_zero, ih]
        by_cases a1 : σ 13 k = 0
        · by_cases a2 : σ 10 k = x <;> simp [a1, a2]
        · by_cases a3 : σ 13 k = 1 <;> by_cases a2 : σ 10 k = x <;> simp [a1, a2, a3]
  exact g _ _ _
theorem q_demand (h : rl σ (μ 0)) (x : Int32) : f_X4_demand μ x = f_X2_demandOf σ x := by
  unfold f_X4_demand f_X2_demandOf
  rw [rl_C h]
  have g : ∀ (fu k : Nat) (a : Int32), g_X4_demand_4 μ x fu k a = g_X2_demandOf_4 σ x fu k a := by
    intro fu
    induction fu with
    | zero => intro k a; rfl
    | succ fu ih =>
      intro k a
      rw [g_X4_demand_4, g_X2_demandOf_4, rl_C h]
      by_cases c : nC σ ≤ k
      · rw [if_pos c, if_pos c]
      · have k6 := rl_6 h (Nat.lt_of_not_le c)
        simp only [if_neg c, rl_c0 h k6, rl_c2 h k6, Int32.add_zero, ih]
  exact g _ _ _
theorem b_add {a b : Int32} {l u l' u' : Int} (h : bnd a l u) (h2 : bnd b l' u') (w1 : -1000000000 ≤ l := by omega) (w2 : u ≤ 1000000000 := by omega) (w3 : -1000000000 ≤ l' := by omega) (w4 : u' ≤ 1000000000 := by omega) : bnd (a + b) (l + l') (u + u') := by
  have e := i_add (a := a) (b := b) (by have := h.1; omega) (by have := h.2; omega) (by have := h2.1; omega) (by have := h2.2; omega)
  exact ⟨by rw [e]; have := h.1; have := h2.1; omega, by rw [e]; have := h.2; have := h2.2; omega⟩
theorem b_sub {a b : Int32} {l u l' u' : Int} (h : bnd a l u) (h2 : bnd b l' u') (w1 : -1000000000 ≤ l := by omega) (w2 : u ≤ 1000000000 := by omega) (w3 : -1000000000 ≤ l' := by omega) (w4 : u' ≤ 1000000000 := by omega) : (a - b).toInt = a.toInt - b.toInt :=
  i_sub (by have := h.1; omega) (by have := h.2; omega) (by have := h2.1; omega) (by have := h2.2; omega)
theorem b_0 : bnd 0 0 0 := ⟨by decide, by decide⟩
theorem b_1 : bnd 1 1 1 := ⟨by decide, by decide⟩
theorem b_demand {r : Nat → Int32} (h : rl σ r) (x : Int32) : bnd (f_X2_demandOf σ x) 0 1200 := by
  have g : ∀ (fu k : Nat) (a : Int32), k ≤ 6 → bnd a 0 (200 * k) → bnd (g_X2_demandOf_4 σ x fu k a) 0 1200 := by
    intro fu
    induction fu with
    | zero => intro k a hk ha; exact bnd_w ha (Int.le_refl _) (by omega)
    | succ fu ih =>
      intro k a hk ha
      rw [g_X2_demandOf_4]
      by_cases c : nC σ ≤ k
      · rw [if_pos c]; exact bnd_w ha (Int.le_refl _) (by omega)
      · have k6 := rl_6 h (Nat.lt_of_not_le c)
        rw [if_neg c]
        split
        · exact ih _ _ (by omega) (bnd_w (b_add ha (rl_b9 h k6)) (by omega) (by omega))
        · exact ih _ _ (by omega) (bnd_w ha (by omega) (by omega))
  exact g _ _ _ (by omega) b_0
theorem b_supply {r : Nat → Int32} (h : rl σ r) (x : Int32) : bnd (f_X2_supplyOf σ x) 0 60 := by
  have g : ∀ (fu k : Nat) (a : Int32), k ≤ 60 → bnd a 0 k → bnd (g_X2_supplyOf_4 σ x fu k a) 0 60 := by
    intro fu
    induction fu with
    | zero => intro k a hk ha; exact bnd_w ha (Int.le_refl _) (by omega)
    | succ fu ih =>
      intro k a hk ha
      rw [g_X2_supplyOf_4]
      by_cases c : nN σ ≤ k
      · rw [if_pos c]; exact bnd_w ha (Int.le_refl _) (by omega)
      · have k6 := rl_60 h (Nat.lt_of_not_le c)
        have i1 := ih (k + 1) (a + 1) (by omega) (bnd_w (b_add ha b_1) (by omega) (by omega))
        have i0 := ih (k + 1) a (by omega) (bnd_w ha (by omega) (by omega))
        rw [if_neg c]
        (repeat' split) <;> assumption
  exact g _ _ _ (by omega) b_0
theorem b_ofIn {r : Nat → Int32} (h : rl σ r) (x y : Int32) : bnd (f_X2_copiesOfIn σ x y) 0 60 := by
  have g : ∀ (fu k : Nat) (a : Int32), k ≤ 60 → bnd a 0 k → bnd (g_X2_copiesOfIn_5 σ x y fu k a) 0 60 := by
    intro fu
    induction fu with
    | zero => intro k a hk ha; exact bnd_w ha (Int.le_refl _) (by omega)
    | succ fu ih =>
      intro k a hk ha
      rw [g_X2_copiesOfIn_5]
      by_cases c : nN σ ≤ k
      · rw [if_pos c]; exact bnd_w ha (Int.le_refl _) (by omega)
      · have k6 := rl_60 h (Nat.lt_of_not_le c)
        have i1 := ih (k + 1) (a + 1) (by omega) (bnd_w (b_add ha b_1) (by omega) (by omega))
        have i0 := ih (k + 1) a (by omega) (bnd_w ha (by omega) (by omega))
        rw [if_neg c]
        (repeat' split) <;> assumption
  exact g _ _ _ (by omega) b_0
theorem b_mul {a b : Int32} {m n : Int} (ha : bnd a 0 m) (hb : bnd b 0 n) (hmn : m * n ≤ 2000000000) : (a * b).toInt = a.toInt * b.toInt ∧ bnd (a * b) 0 (m * n) := by
  have hm : 0 ≤ m := Int.le_trans ha.1 ha.2
  have q0 : 0 ≤ a.toInt * b.toInt := Int.mul_nonneg ha.1 hb.1
  have q1 : a.toInt * b.toInt ≤ m * n := Int.mul_le_mul ha.2 hb.2 hb.1 hm
  have e : (a * b).toInt = a.toInt * b.toInt := by
    rw [Int32.toInt_mul]
    exact Int.bmod_eq_of_le (by omega) (by omega)
  exact ⟨e, by rw [e]; exact q0, by rw [e]; exact q1⟩
theorem b_div {a d : Int32} {m : Int} (n : Nat) (ha : bnd a 0 m) (hm : m ≤ 2000000000) (hd : d.toInt = n) (hn : 0 < n) : (a / d).toInt = a.toInt / n ∧ bnd (a / d) 0 (m / n) := by
  have a0 := ha.1
  have a1 := ha.2
  have e : (a / d).toInt = a.toInt / n := by
    have h1 : a.toInt.tdiv (n : Int) = a.toInt / n := Int.tdiv_eq_ediv_of_nonneg a0
    have h2 : 0 ≤ a.toInt / n := Int.ediv_nonneg a0 (by omega)
    have h3 : a.toInt / n ≤ a.toInt := Int.ediv_le_self _ a0
    rw [Int32.toInt_div, hd, h1]
    exact Int.bmod_eq_of_le (by omega) (by omega)
  refine ⟨e, ?_, ?_⟩
  · rw [e]; exact Int.ediv_nonneg a0 (by omega)
  · rw [e]; exact Int.ediv_le_ediv (by omega) a1
theorem b_min {a : Int32} {m : Int} (ha : bnd a 0 m) : bnd (if a < 100 then a else 100) 0 100 := by
  have e : (100 : Int32).toInt = 100 := by decide
  by_cases c : a < 100
  · rw [if_pos c]
    rw [Int32.lt_iff_toInt_lt, e] at c
    exact ⟨ha.1, by omega⟩
  · rw [if_neg c]; exact ⟨by rw [e]; decide, by rw [e]; decide⟩
theorem b_max {a : Int32} {l m : Int} (hm : 0 ≤ m) (ha : bnd a l m) : bnd (if 0 < a then a else 0) 0 m := by
  have e : (0 : Int32).toInt = 0 := by decide
  by_cases c : 0 < a
  · rw [if_pos c]
    rw [Int32.lt_iff_toInt_lt, e] at c
    exact ⟨by omega, ha.2⟩
  · rw [if_neg c]; exact ⟨by rw [e]; exact Int.le_refl _, by rw [e]; exact hm⟩
theorem b_subB {a b : Int32} {l u l' u' : Int} (h : bnd a l u) (h2 : bnd b l' u') (w1 : -1000000000 ≤ l := by omega) (w2 : u ≤ 1000000000 := by omega) (w3 : -1000000000 ≤ l' := by omega) (w4 : u' ≤ 1000000000 := by omega) : bnd (a - b) (l - u') (u - l') := by
  have e := b_sub h h2 w1 w2 w3 w4
  exact ⟨by rw [e]; have := h.1; have := h2.2; omega, by rw [e]; have := h.2; have := h2.1; omega⟩
theorem wv_mono {W W' c : Int} (h : W' ≤ W) (h0 : 0 ≤ c) (h1 : c ≤ 100) : W' - W' * c / 100 ≤ W - W * c / 100 := by
  have e : W * c = W' * c + (W - W') * c := by rw [← Int.add_mul]; congr 1; omega
  have q : (W - W') * c ≤ (W - W') * 100 := Int.mul_le_mul_of_nonneg_left h1 (by omega)
  omega
/-- the worth as a whole number -/
def wq (P c g : Int) : Int := P * (100 - 20 * g) / 100 - P * (100 - 20 * g) / 100 * c / 100
theorem wq_mono {P c g g' : Int} (hP : 0 ≤ P) (h0 : 0 ≤ c) (h1 : c ≤ 100) (hg : g ≤ g') : wq P c g' ≤ wq P c g := by
  unfold wq
  refine wv_mono (Int.ediv_le_ediv (by omega) (Int.mul_le_mul_of_nonneg_left (by omega) hP)) h0 h1
def cutOf (σ : Nat → Nat → Int32) (c y : Int32) : Int32 := if ((σ 4 3) * (if 0 < (c - y) then (c - y) else 0)) < 100 then ((σ 4 3) * (if 0 < (c - y) then (c - y) else 0)) else 100
theorem b_cut {r : Nat → Int32} (h : rl σ r) {c y : Int32} (hc : bnd c 0 31) (hy : bnd y 0 30) : bnd (cutOf σ c y) 0 100 := by
  have b1 := b_max (m := 31) (by decide) (bnd_w (b_subB hc hy) (by decide : (-30 : Int) ≤ _) (by decide))
  exact b_min (b_mul (rl_b43 h) b1 (by decide)).2
theorem e_wq {r : Nat → Int32} (h : rl σ r) {t : Nat} {c y z : Int32} (hc : bnd c 0 31) (hy : bnd y 0 30) (hz : bnd z 0 4) : (f_X2_worthBy σ t c y z).toInt = wq (σ 5 t).toInt (cutOf σ c y).toInt z.toInt ∧ bnd (f_X2_worthBy σ t c y z) 0 20000 := by
  have e20 : bnd 20 0 20 := ⟨by decide, by decide⟩
  have e100 : bnd 100 100 100 := ⟨by decide, by decide⟩
  have l20 : (20 : Int32).toInt = 20 := by decide
  have l100 : (100 : Int32).toInt = 100 := by decide
  have z1 := b_mul e20 hz (by decide)
  have z2 := b_sub e100 z1.2
  have z3 : bnd (100 - 20 * z) 0 100 := by
    have := hz.1
    have := hz.2
    rw [z1.1, l20, l100] at z2
    exact ⟨by rw [z2]; omega, by rw [z2]; omega⟩
  have z4 := b_mul (rl_b5 h t) z3 (by decide)
  have z5 := b_div (d := 100) 100 z4.2 (by decide) (by decide) (by decide)
  have hcut := b_cut h hc hy
  have z6 := b_mul (bnd_w z5.2 (Int.le_refl _) (by decide : _ ≤ (20000 : Int))) hcut (by decide)
  have z7 := b_div (d := 100) 100 z6.2 (by decide) (by decide) (by decide)
  have z8 := b_sub (bnd_w z5.2 (Int.le_refl _) (by decide : _ ≤ (20000 : Int))) (bnd_w z7.2 (Int.le_refl _) (by decide : _ ≤ (20000 : Int)))
  have e : (f_X2_worthBy σ t c y z).toInt = wq (σ 5 t).toInt (cutOf σ c y).toInt z.toInt := by
    show ((((σ 5 t) * (100 - (20 * z))) / 100) - (((((σ 5 t) * (100 - (20 * z))) / 100) * cutOf σ c y) / 100)).toInt = _
    rw [z8, z7.1, z6.1, z5.1, z4.1, z2, z1.1, l20, l100]
    rfl
  refine ⟨e, ?_, ?_⟩
  · have q0 : 0 ≤ wq (σ 5 t).toInt (cutOf σ c y).toInt z.toInt := by
      have m0 := wv_mono (W' := 0) (W := (σ 5 t).toInt * (100 - 20 * z.toInt) / 100) (c := (cutOf σ c y).toInt) (Int.ediv_nonneg (Int.mul_nonneg (rl_b5 h t).1 (by have := hz.2; omega)) (by decide)) hcut.1 hcut.2
      rw [Int.zero_mul] at m0
      unfold wq
      omega
    rw [e]; exact q0
  · show ((((σ 5 t) * (100 - (20 * z))) / 100) - (((((σ 5 t) * (100 - (20 * z))) / 100) * cutOf σ c y) / 100)).toInt ≤ 20000
    rw [z8]
    have := z5.2.2
    have := z7.2.1
    omega
end RL

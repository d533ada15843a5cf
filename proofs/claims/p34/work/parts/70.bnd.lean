/-! ===== bounds of the shop's fields ===== -/
theorem i_sub {a b : Int32} (h1 : -1000000000 ≤ a.toInt) (h2 : a.toInt ≤ 1000000000) (h3 : -1000000000 ≤ b.toInt) (h4 : b.toInt ≤ 1000000000) : (a - b).toInt = a.toInt - b.toInt := by
  rw [Int32.toInt_sub]
  exact Int.bmod_eq_of_le (by omega) (by omega)
theorem i_add {a b : Int32} (h1 : -1000000000 ≤ a.toInt) (h2 : a.toInt ≤ 1000000000) (h3 : -1000000000 ≤ b.toInt) (h4 : b.toInt ≤ 1000000000) : (a + b).toInt = a.toInt + b.toInt := by
  rw [Int32.toInt_add]
  exact Int.bmod_eq_of_le (by omega) (by omega)
def bnd (x : Int32) (a b : Int) : Prop := a ≤ x.toInt ∧ x.toInt ≤ b
def bok (f i : Nat) (x : Int32) : Prop := match f with
  | 0 => bnd x 0 100000 | 4 => (i = 0 → bnd x 0 200) ∧ (i = 1 → bnd x 0 200) ∧ (i = 2 → bnd x 1 60) ∧ (i = 3 → bnd x 0 50) | 5 => bnd x 0 20000 | 6 => bnd x 0 30 | 9 => bnd x 0 200 | 11 => bnd x 0 30 | 12 => bnd x 0 4 | 13 => bnd x 0 4 | 15 => bnd x 0 100200 | _ => True
def bdR (σ : Nat → Nat → Int32) : Prop := ∀ f i, bok f i (σ f i)
def bq (σ : Nat → Nat → Int32) : Prop := okS σ ∧ bdR σ
section RL
variable {σ : Nat → Nat → Int32}
theorem rl_b0 (h : bq σ) : bnd (σ 0 0) 0 100000 := h.2 0 0
theorem rl_b40 (h : bq σ) : bnd (σ 4 0) 0 200 := (h.2 4 0).1 rfl
theorem rl_b42 (h : bq σ) : bnd (σ 4 2) 1 60 := (h.2 4 2).2.2.1 rfl
theorem rl_b41 (h : bq σ) : bnd (σ 4 1) 0 200 := (h.2 4 1).2.1 rfl
theorem rl_b43 (h : bq σ) : bnd (σ 4 3) 0 50 := (h.2 4 3).2.2.2 rfl
theorem rl_b5 (h : bq σ) (t : Nat) : bnd (σ 5 t) 0 20000 := h.2 5 t
theorem rl_b12 (h : bq σ) (k : Nat) : bnd (σ 12 k) 0 4 := h.2 12 k
theorem rl_b6 (h : bq σ) {t : Nat} (ht : t < 6) : bnd (σ 6 t) 0 30 := h.2 6 t
theorem rl_b9 (h : bq σ) {t : Nat} (ht : t < 6) : bnd (σ 9 t) 0 200 := h.2 9 t
theorem rl_b11 (h : bq σ) {k : Nat} (hk : k < 60) : bnd (σ 11 k) 0 30 := h.2 11 k
theorem rl_b13 (h : bq σ) {k : Nat} (hk : k < 60) : bnd (σ 13 k) 0 4 := h.2 13 k
theorem rl_b15 (h : bq σ) {k : Nat} (hk : k < 60) : bnd (σ 15 k) 0 100200 := h.2 15 k
theorem rl_60 (h : bq σ) {k : Nat} (hk : k < nN σ) : k < 60 := Nat.lt_of_lt_of_le hk (okS_b h.1).2.2
theorem rl_6 (h : bq σ) {k : Nat} (hk : k < nC σ) : k < 6 := Nat.lt_of_lt_of_le hk (okS_b h.1).2.1
theorem rl_6t (h : bq σ) {k : Nat} (hk : k < nT σ) : k < 6 := Nat.lt_of_lt_of_le hk (okS_b h.1).1
theorem bnd_w {x : Int32} {a b a' b' : Int} (h : bnd x a b) (h1 : a' ≤ a) (h2 : b ≤ b') : bnd x a' b' := ⟨Int.le_trans h1 h.1, Int.le_trans h.2 h2⟩
theorem tOf_6 (h : bq σ) {k : Nat} (hk : k < nN σ) : tOf σ k < 6 := (okS_t h.1 hk).2
theorem tk2 (j : Nat) (y z : Int32) : (f_X2_takes σ j y z = 0) = ¬ (σ 7 j = y ∧ ¬ z < σ 8 j) := by
  unfold f_X2_takes
  by_cases c : σ 7 j = y
  · by_cases d : z < σ 8 j <;> simp [c, d]
  · simp [c]
theorem su2 (k j : Nat) : (f_X2_suits σ k j = 0) = ¬ (σ 7 j = σ 10 k ∧ ¬ σ 11 k < σ 8 j) := tk2 j _ _
theorem b_add {a b : Int32} {l u l' u' : Int} (h : bnd a l u) (h2 : bnd b l' u') (w1 : -1000000000 ≤ l := by omega) (w2 : u ≤ 1000000000 := by omega) (w3 : -1000000000 ≤ l' := by omega) (w4 : u' ≤ 1000000000 := by omega) : bnd (a + b) (l + l') (u + u') := by
  have e := i_add (a := a) (b := b) (by have := h.1; omega) (by have := h.2; omega) (by have := h2.1; omega) (by have := h2.2; omega)
  exact ⟨by rw [e]; have := h.1; have := h2.1; omega, by rw [e]; have := h.2; have := h2.2; omega⟩
theorem b_sub {a b : Int32} {l u l' u' : Int} (h : bnd a l u) (h2 : bnd b l' u') (w1 : -1000000000 ≤ l := by omega) (w2 : u ≤ 1000000000 := by omega) (w3 : -1000000000 ≤ l' := by omega) (w4 : u' ≤ 1000000000 := by omega) : (a - b).toInt = a.toInt - b.toInt :=
  i_sub (by have := h.1; omega) (by have := h.2; omega) (by have := h2.1; omega) (by have := h2.2; omega)
theorem b_0 : bnd 0 0 0 := ⟨by decide, by decide⟩
theorem b_1 : bnd 1 1 1 := ⟨by decide, by decide⟩
theorem b_demand (h : bq σ) (x : Int32) : bnd (f_X2_demandOf σ x) 0 1200 := by
  have g : ∀ (fu k : Nat) (a : Int32), k ≤ 6 → bnd a 0 (200 * k) → bnd (g_X2_demandOf_4 σ x fu k a) 0 1200 := by
    intro fu
    induction fu with
    | zero => intro k a hk ha; exact bnd_w ha (Int.le_refl _) (by omega)
    | succ fu ih =>
      intro k a hk ha
      rw [g_X2_demandOf_4]
      by_cases c : nC σ ≤ k
      · rw [if_pos c]; exact bnd_w ha (Int.le_refl _) (by omega)
      · have k6 := rl_6 h (Nat.lt_of_not_le c)
        rw [if_neg c]
        split
        · exact ih _ _ (by omega) (bnd_w (b_add ha (rl_b9 h k6)) (by omega) (by omega))
        · exact ih _ _ (by omega) (bnd_w ha (by omega) (by omega))
  exact g _ _ _ (by omega) b_0
theorem b_supply (h : bq σ) (x : Int32) : bnd (f_X2_supplyOf σ x) 0 60 := by
  have g : ∀ (fu k : Nat) (a : Int32), k ≤ 60 → bnd a 0 k → bnd (g_X2_supplyOf_4 σ x fu k a) 0 60 := by
    intro fu
    induction fu with
    | zero => intro k a hk ha; exact bnd_w ha (Int.le_refl _) (by omega)
    | succ fu ih =>
      intro k a hk ha
      rw [g_X2_supplyOf_4]
      by_cases c : nN σ ≤ k
      · rw [if_pos c]; exact bnd_w ha (Int.le_refl _) (by omega)
      · have k6 := rl_60 h (Nat.lt_of_not_le c)
        have i1 := ih (k + 1) (a + 1) (by omega) (bnd_w (b_add ha b_1) (by omega) (by omega))
        have i0 := ih (k + 1) a (by omega) (bnd_w ha (by omega) (by omega))
        rw [if_neg c]
        (repeat' split) <;> assumption
  exact g _ _ _ (by omega) b_0
theorem b_ofIn (h : bq σ) (x y : Int32) : bnd (f_X2_copiesOfIn σ x y) 0 60 := by
  have g : ∀ (fu k : Nat) (a : Int32), k ≤ 60 → bnd a 0 k → bnd (g_X2_copiesOfIn_5 σ x y fu k a) 0 60 := by
    intro fu
    induction fu with
    | zero => intro k a hk ha; exact bnd_w ha (Int.le_refl _) (by omega)
    | succ fu ih =>
      intro k a hk ha
      rw [g_X2_copiesOfIn_5]
      by_cases c : nN σ ≤ k
      · rw [if_pos c]; exact bnd_w ha (Int.le_refl _) (by omega)
      · have k6 := rl_60 h (Nat.lt_of_not_le c)
        have i1 := ih (k + 1) (a + 1) (by omega) (bnd_w (b_add ha b_1) (by omega) (by omega))
        have i0 := ih (k + 1) a (by omega) (bnd_w ha (by omega) (by omega))
        rw [if_neg c]
        (repeat' split) <;> assumption
  exact g _ _ _ (by omega) b_0
theorem b_mul {a b : Int32} {m n : Int} (ha : bnd a 0 m) (hb : bnd b 0 n) (hmn : m * n ≤ 2000000000) : (a * b).toInt = a.toInt * b.toInt ∧ bnd (a * b) 0 (m * n) := by
  have hm : 0 ≤ m := Int.le_trans ha.1 ha.2
  have q0 : 0 ≤ a.toInt * b.toInt := Int.mul_nonneg ha.1 hb.1
  have q1 : a.toInt * b.toInt ≤ m * n := Int.mul_le_mul ha.2 hb.2 hb.1 hm
  have e : (a * b).toInt = a.toInt * b.toInt := by
    rw [Int32.toInt_mul]
    exact Int.bmod_eq_of_le (by omega) (by omega)
  exact ⟨e, by rw [e]; exact q0, by rw [e]; exact q1⟩
theorem b_div {a d : Int32} {m : Int} (n : Nat) (ha : bnd a 0 m) (hm : m ≤ 2000000000) (hd : d.toInt = n) (hn : 0 < n) : (a / d).toInt = a.toInt / n ∧ bnd (a / d) 0 (m / n) := by
  have a0 := ha.1
  have a1 := ha.2
  have e : (a / d).toInt = a.toInt / n := by
    have h1 : a.toInt.tdiv (n : Int) = a.toInt / n := Int.tdiv_eq_ediv_of_nonneg a0
    have h2 : 0 ≤ a.toInt / n := Int.ediv_nonneg a0 (by omega)
    have h3 : a.toInt / n ≤ a.toInt := Int.ediv_le_self _ a0
    rw [Int32.toInt_div, hd, h1]
    exact Int.bmod_eq_of_le (by omega) (by omega)
  refine ⟨e, ?_, ?_⟩
  · rw [e]; exact Int.ediv_nonneg a0 (by omega)
  · rw [e]; exact Int.ediv_le_ediv (by omega) a1
theorem b_min {a : Int32} {m : Int} (ha : bnd a 0 m) : bnd (if a < 100 then a else 100) 0 100 := by
  have e : (100 : Int32).toInt = 100 := by decide
  by_cases c : a < 100
  · rw [if_pos c]
    rw [Int32.lt_iff_toInt_lt, e] at c
    exact ⟨ha.1, by omega⟩
  · rw [if_neg c]; exact ⟨by rw [e]; decide, by rw [e]; decide⟩
theorem b_max {a : Int32} {l m : Int} (hm : 0 ≤ m) (ha : bnd a l m) : bnd (if 0 < a then a else 0) 0 m := by
  have e : (0 : Int32).toInt = 0 := by decide
  by_cases c : 0 < a
  · rw [if_pos c]
    rw [Int32.lt_iff_toInt_lt, e] at c
    exact ⟨by omega, ha.2⟩
  · rw [if_neg c]; exact ⟨by rw [e]; exact Int.le_refl _, by rw [e]; exact hm⟩
theorem b_subB {a b : Int32} {l u l' u' : Int} (h : bnd a l u) (h2 : bnd b l' u') (w1 : -1000000000 ≤ l := by omega) (w2 : u ≤ 1000000000 := by omega) (w3 : -1000000000 ≤ l' := by omega) (w4 : u' ≤ 1000000000 := by omega) : bnd (a - b) (l - u') (u - l') := by
  have e := b_sub h h2 w1 w2 w3 w4
  exact ⟨by rw [e]; have := h.1; have := h2.2; omega, by rw [e]; have := h.2; have := h2.1; omega⟩
theorem wv_mono {W W' c : Int} (h : W' ≤ W) (h0 : 0 ≤ c) (h1 : c ≤ 100) : W' - W' * c / 100 ≤ W - W * c / 100 := by
  have e : W * c = W' * c + (W - W') * c := by rw [← Int.add_mul]; congr 1; omega
  have q : (W - W') * c ≤ (W - W') * 100 := Int.mul_le_mul_of_nonneg_left h1 (by omega)
  omega
def wq (P c g : Int) : Int := P * (100 - 20 * g) / 100 - P * (100 - 20 * g) / 100 * c / 100
theorem wq_mono {P c g g' : Int} (hP : 0 ≤ P) (h0 : 0 ≤ c) (h1 : c ≤ 100) (hg : g ≤ g') : wq P c g' ≤ wq P c g := by
  unfold wq
  refine wv_mono (Int.ediv_le_ediv (by omega) (Int.mul_le_mul_of_nonneg_left (by omega) hP)) h0 h1
def cutOf (σ : Nat → Nat → Int32) (c y : Int32) : Int32 := if ((σ 4 3) * (if 0 < (c - y) then (c - y) else 0)) < 100 then ((σ 4 3) * (if 0 < (c - y) then (c - y) else 0)) else 100
theorem b_cut (h : bq σ) {c y : Int32} (hc : bnd c 0 31) (hy : bnd y 0 30) : bnd (cutOf σ c y) 0 100 := by
  have b1 := b_max (m := 31) (by decide) (bnd_w (b_subB hc hy) (by decide : (-30 : Int) ≤ _) (by decide))
  exact b_min (b_mul (rl_b43 h) b1 (by decide)).2
theorem e_wq (h : bq σ) {t : Nat} {c y z : Int32} (hc : bnd c 0 31) (hy : bnd y 0 30) (hz : bnd z 0 4) : (f_X2_worthBy σ t c y z).toInt = wq (σ 5 t).toInt (cutOf σ c y).toInt z.toInt ∧ bnd (f_X2_worthBy σ t c y z) 0 20000 := by
  have e20 : bnd 20 0 20 := ⟨by decide, by decide⟩
  have e100 : bnd 100 100 100 := ⟨by decide, by decide⟩
  have l20 : (20 : Int32).toInt = 20 := by decide
  have l100 : (100 : Int32).toInt = 100 := by decide
  have z1 := b_mul e20 hz (by decide)
  have z2 := b_sub e100 z1.2
  have z3 : bnd (100 - 20 * z) 0 100 := by
    have := hz.1
    have := hz.2
    rw [z1.1, l20, l100] at z2
    exact ⟨by rw [z2]; omega, by rw [z2]; omega⟩
  have z4 := b_mul (rl_b5 h t) z3 (by decide)
  have z5 := b_div (d := 100) 100 z4.2 (by decide) (by decide) (by decide)
  have hcut := b_cut h hc hy
  have z6 := b_mul (bnd_w z5.2 (Int.le_refl _) (by decide : _ ≤ (20000 : Int))) hcut (by decide)
  have z7 := b_div (d := 100) 100 z6.2 (by decide) (by decide) (by decide)
  have z8 := b_sub (bnd_w z5.2 (Int.le_refl _) (by decide : _ ≤ (20000 : Int))) (bnd_w z7.2 (Int.le_refl _) (by decide : _ ≤ (20000 : Int)))
  have e : (f_X2_worthBy σ t c y z).toInt = wq (σ 5 t).toInt (cutOf σ c y).toInt z.toInt := by
    show ((((σ 5 t) * (100 - (20 * z))) / 100) - (((((σ 5 t) * (100 - (20 * z))) / 100) * cutOf σ c y) / 100)).toInt = _
    rw [z8, z7.1, z6.1, z5.1, z4.1, z2, z1.1, l20, l100]
    rfl
  refine ⟨e, ?_, ?_⟩
  · have q0 : 0 ≤ wq (σ 5 t).toInt (cutOf σ c y).toInt z.toInt := by
      have m0 := wv_mono (W' := 0) (W := (σ 5 t).toInt * (100 - 20 * z.toInt) / 100) (c := (cutOf σ c y).toInt) (Int.ediv_nonneg (Int.mul_nonneg (rl_b5 h t).1 (by have := hz.2; omega)) (by decide)) hcut.1 hcut.2
      rw [Int.zero_mul] at m0
      unfold wq
      omega
    rw [e]; exact q0
  · show ((((σ 5 t) * (100 - (20 * z))) / 100) - (((((σ 5 t) * (100 - (20 * z))) / 100) * cutOf σ c y) / 100)).toInt ≤ 20000
    rw [z8]
    have := z5.2.2
    have := z7.2.1
    omega
theorem rb2 (k : Nat) (y : Int32) : (f_X2_isRentedBy σ k y = 0) = ¬ (σ 13 k = 1 ∧ σ 14 k = y) := by
  unfold f_X2_isRentedBy
  by_cases c : σ 13 k = 1
  · by_cases d : σ 14 k = y <;> simp [c, d]
  · simp [c]
theorem ga2 (k j : Nat) : (f_X2_goesAhead σ k j = 0) = ¬ ((σ 12 k = σ 12 j ∧ ¬ σ 11 j ≤ σ 11 k) ∨ (¬ σ 12 k = σ 12 j ∧ ¬ σ 12 k ≤ σ 12 j)) := by
  unfold f_X2_goesAhead
  by_cases c : σ 12 k = σ 12 j
  · by_cases d : σ 11 j ≤ σ 11 k <;> simp [c, d]
  · by_cases d : σ 12 k ≤ σ 12 j <;> simp [c, d]
theorem sw_lt (n : Nat) (hn : n < 1000) {y : Int32} (h : ¬ f_X2_isBetween y 0 (nI n) = 0) : tn y ≤ n ∧ y = nI (tn y) := btwN n h (by decide) rfl (by omega)
theorem sw_out {y : Int32} {n : Nat} (h : f_X2_isBetween y 0 (nI n) = 0) {k : Nat} (hk : k ≤ n) (hn : n < 1000) : ¬ y = nI k := by
  intro e
  refine btw_z h ?_
  rw [e]
  exact ⟨nI_pos' (by omega), nI_le hk (by omega)⟩
theorem max_sub {d s : Int32} (b1 : bnd d 0 1200) (b2 : bnd s 0 60) : (if d ≤ s then 0 else d - s) = (if 0 < d - s then d - s else 0) := by
  have e1 := b_sub b1 b2
  have z0 : (0 : Int32).toInt = 0 := by decide
  by_cases q : d ≤ s
  · rw [if_pos q, if_neg]
    rw [Int32.le_iff_toInt_le] at q
    rw [Int32.lt_iff_toInt_lt, e1]
    omega
  · rw [if_neg q, if_pos]
    rw [Int32.le_iff_toInt_le] at q
    rw [Int32.lt_iff_toInt_lt, e1]
    omega
theorem le_lt {α : Type} {a b : Int32} {x y : α} : (if a ≤ b then x else y) = (if b < a then y else x) := by
  by_cases c : a ≤ b
  · rw [if_pos c, if_neg (Int32.not_lt.mpr c)]
  · rw [if_neg c, if_pos (Int32.not_le.mp c)]
theorem bdR_w (h : bdR σ) {f i : Nat} {v : Int32} (hv : bok f i v) : bdR (shU σ f i v) := by
  intro g j
  by_cases c : g = f
  · subst c
    by_cases d : j = i
    · subst d; rw [shU_eq]; exact hv
    · rw [shU_ne d]; exact h g j
  · rw [shU_f c]; exact h g j
theorem bdR_s (h : bdR σ) {f : Nat} {v : Int32} (hv : ∀ i, bok f i v) : bdR (shS σ f v) := by
  intro g j
  by_cases c : g = f
  · subst c; rw [shS_eq]; exact hv j
  · rw [shS_f c]; exact h g j
theorem b_nn {x : Int32} {a b : Int} (h : bnd x a b) (ha : 0 ≤ a) : 0 ≤ x := by
  rw [Int32.le_iff_toInt_le]
  exact Int.le_trans (Int.le_trans (by decide) ha) h.1
theorem b_nI {n : Nat} (h : n < 1000) : bnd (nI n) n n := by
  have e := nI_toInt (n := n) (by omega)
  exact ⟨by rw [e]; exact Int.le_refl _, by rw [e]; exact Int.le_refl _⟩
theorem pred_1 (x : Int32) : x + 1 - 1 = x := by rw [Int32.sub_eq_add_neg, Int32.add_assoc, Int32.add_right_neg, Int32.add_zero]
theorem f_lt {x : Int32} {n m : Nat} (hx : x = nI n) (hn : n ≤ m) (hm : m < 1000) : (x = nI m) = ¬ (n < m) := by
  rw [hx, nI_eq (by omega) (by omega)]
  exact propext ⟨fun q => by omega, fun q => by omega⟩
theorem ed_30 {e : Int32} (he : bnd e 0 30) : (e = 30) = ¬ (e < 30) := by
  have z : (30 : Int32).toInt = 30 := by decide
  have a := he.1
  have b := he.2
  rw [Int32.lt_iff_toInt_lt, ← Int32.toInt_inj, z]
  exact propext ⟨fun q => by omega, fun q => by omega⟩
theorem b_ed1 {e : Int32} (he : bnd e 0 30) (h : e < 30) : bnd (e + 1) 1 30 := by
  have z : (30 : Int32).toInt = 30 := by decide
  have o : (1 : Int32).toInt = 1 := by decide
  rw [Int32.lt_iff_toInt_lt, z] at h
  have a := he.1
  have q := i_add (a := e) (b := 1) (by omega) (by omega) (by omega) (by omega)
  exact ⟨by omega, by omega⟩
theorem bnd_btw {x : Int32} {a b : Int32} (h : ¬ f_X2_isBetween x a b = 0) : bnd x a.toInt b.toInt := by
  have q := btw_nz h
  exact ⟨Int32.le_iff_toInt_le.mp q.1, Int32.le_iff_toInt_le.mp q.2⟩
theorem ed_b {y : Int32} (d : ¬ f_X2_isEdition y = 0) : bnd y 0 30 := bnd_w (bnd_btw d) (by decide) (by decide)
theorem bs_ok {i : Nat} (hi : i < 4) {v : Int32} (h : ¬ f_X2_isBetween v (sLow i) (sHigh i) = 0) : bok 4 i v := by
  have q := bnd_btw h
  match i, hi with
  | 0, _ => exact ⟨fun _ => bnd_w q (by decide) (by decide), fun e => absurd e (by decide), fun e => absurd e (by decide), fun e => absurd e (by decide)⟩
  | 1, _ => exact ⟨fun e => absurd e (by decide), fun _ => bnd_w q (by decide) (by decide), fun e => absurd e (by decide), fun e => absurd e (by decide)⟩
  | 2, _ => exact ⟨fun e => absurd e (by decide), fun e => absurd e (by decide), fun _ => bnd_w q (by decide) (by decide), fun e => absurd e (by decide)⟩
  | 3, _ => exact ⟨fun e => absurd e (by decide), fun e => absurd e (by decide), fun e => absurd e (by decide), fun _ => bnd_w q (by decide) (by decide)⟩
theorem b_set (h : bq σ) {i : Nat} (hi : i < 4) : bnd (σ 4 i) 0 200 := by
  match i, hi with
  | 0, _ => exact rl_b40 h
  | 1, _ => exact rl_b41 h
  | 2, _ => exact bnd_w (rl_b42 h) (by decide) (by decide)
  | 3, _ => exact bnd_w (rl_b43 h) (by decide) (by decide)
theorem b_worth (h : bq σ) {k : Nat} (hk : k < nN σ) : bnd (f_X2_worthOf σ k) 0 20000 := (e_wq h (bnd_w (rl_b6 h (tOf_6 h hk)) (by decide) (by decide)) (rl_b11 h (rl_60 h hk)) (rl_b12 h k)).2
theorem b_pct {w p : Int32} {n : Nat} (hw : bnd w 0 20000) (hp : bnd p n n) (hn : n ≤ 100) : bnd ((w * p) / 100) 0 20000 := by
  have a := b_mul hw (bnd_w hp (by omega) (by omega : (n : Int) ≤ 100)) (by decide)
  exact (b_div (d := 100) 100 a.2 (by decide) (by decide) (by decide)).2
theorem b_offer (h : bq σ) {x y z : Int32} (c : ¬ f_X2_hasTitle σ x = 0) (d : ¬ f_X2_isEdition y = 0) (e : ¬ f_X2_isGrade z = 0) : bnd (f_X2_offerFor σ x y z) 0 20000 := by
  obtain ⟨t1, t2⟩ := hasTitle_ok h.1 c
  have t6 := rl_6t h t1
  have b := (e_wq h (t := tn x) (c := σ 6 (tn x)) (y := y) (z := z) (bnd_w (rl_b6 h t6) (by decide) (by decide)) (ed_b d) (bnd_w (bnd_btw e) (by decide) (by decide))).2
  have b2 := b_pct (p := 40) (n := 40) b ⟨by decide, by decide⟩ (by decide)
  have b3 := (b_div (d := 2) 2 b2 (by decide) (by decide) (by decide)).2
  unfold f_X2_offerFor
  rw [if_neg c, if_neg d, if_neg e]
  split
  · exact ⟨by decide, by decide⟩
  · split
    · exact b2
    · exact bnd_w b3 (by decide) (by decide)
theorem b_days (h : bq σ) {k : Nat} (hk : k < nN σ) : bnd (f_X2_daysLate σ k) 0 100000 := by
  unfold f_X2_daysLate
  exact bnd_w (b_max (by decide) (b_subB (rl_b0 h) (rl_b15 h (rl_60 h hk)))) (by decide) (by decide : (100000 : Int) - 0 ≤ 100000)
theorem b_lateC (h : bq σ) {k : Nat} (hk : k < nN σ) : bnd (f_X2_lateCharge σ k) 0 20000000 := by
  have w := b_worth h hk
  have q := b_mul (b_days h hk) (rl_b41 h) (by decide)
  unfold f_X2_lateCharge
  split
  · exact bnd_w w (by decide) (by decide)
  · exact bnd_w q.2 (by decide) (by decide)
theorem b_dam (h : bq σ) {k : Nat} (hk : k < nN σ) {y : Int32} (hy : bnd y 0 4) : bnd (f_X2_damageCharge σ k y) 0 20000 := by
  have k6 := rl_60 h hk
  have t6 := tOf_6 h hk
  have g := rl_b12 h k
  have o : (1 : Int32).toInt = 1 := by decide
  have l2 : (2 : Int32).toInt = 2 := by decide
  have l4 : (4 : Int32).toInt = 4 := by decide
  have g0 := g.1
  have g1 := g.2
  have y0 := hy.1
  have y1 := hy.2
  have eg := i_add (a := σ 12 k) (b := y) (by omega) (by omega) (by omega) (by omega)
  have e1 := i_add (a := σ 12 k) (b := 1) (by omega) (by omega) (by omega) (by omega)
  unfold f_X2_damageCharge f_X2_isRuinedBy f_X2_worthWithGrade
  by_cases c : σ 12 k + y ≤ 4
  · rw [if_pos c, if_pos rfl]
    by_cases d : 2 ≤ y
    · rw [if_pos d]
      rw [Int32.le_iff_toInt_le, eg, l4] at c
      rw [Int32.le_iff_toInt_le, l2] at d
      have hc := bnd_w (b' := 31) (rl_b6 h t6) (Int.le_refl _) (by decide)
      have q1 := e_wq h (t := tOf σ k) (y := σ 11 k) (z := σ 12 k + 1) hc (rl_b11 h k6) ⟨by omega, by omega⟩
      have q2 := e_wq h (t := tOf σ k) (y := σ 11 k) (z := σ 12 k + y) hc (rl_b11 h k6) ⟨by omega, by omega⟩
      have bc := b_cut h hc (rl_b11 h k6)
      have m := wq_mono (P := (σ 5 (tOf σ k)).toInt) (c := (cutOf σ (σ 6 (tOf σ k)) (σ 11 k)).toInt) (g := (σ 12 k + 1).toInt) (g' := (σ 12 k + y).toInt) (rl_b5 h _).1 bc.1 bc.2 (by omega)
      have s := b_sub q1.2 q2.2
      have v1 := q1.2.2
      have v2 := q2.2.1
      exact ⟨by rw [s, q1.1, q2.1]; omega, by rw [s]; omega⟩
    · rw [if_neg d]; exact ⟨by decide, by decide⟩
  · rw [if_neg c, if_neg (by decide)]; exact b_worth h hk
theorem b_dayx {d x : Int32} (hd : bnd d 0 100000) (hx : bnd x 1 400) (h : d + x ≤ 100000) : bnd (d + x) 0 100000 := by
  have b := b_add hd hx
  have l : (100000 : Int32).toInt = 100000 := by decide
  rw [Int32.le_iff_toInt_le, l] at h
  exact ⟨by have := b.1; omega, h⟩
theorem own_eq {x : Int32} (hx : bnd x 0 4) : (¬ x = 2 ∧ ¬ x = 3) ↔ (x = 0 ∨ x = 1 ∨ x = 4) := by
  have l0 : (0 : Int32).toInt = 0 := by decide
  have l1 : (1 : Int32).toInt = 1 := by decide
  have l2 : (2 : Int32).toInt = 2 := by decide
  have l3 : (3 : Int32).toInt = 3 := by decide
  have l4 : (4 : Int32).toInt = 4 := by decide
  have a := hx.1
  have b := hx.2
  rw [← Int32.toInt_inj, ← Int32.toInt_inj, ← Int32.toInt_inj, ← Int32.toInt_inj, ← Int32.toInt_inj, l0, l1, l2, l3, l4]
  omega
theorem ow2 {k : Nat} (h : bnd (σ 13 k) 0 4) : (f_X2_isOwned σ k = 0) = ¬ (¬ σ 13 k = 2 ∧ ¬ σ 13 k = 3) := by
  rw [own_eq h]
  unfold f_X2_isOwned
  by_cases a : σ 13 k = 0
  · simp [a]
  · by_cases b : σ 13 k = 1
    · simp [b]
    · by_cases c : σ 13 k = 4
      · simp [c]
      · simp [a, b, c]
theorem bz {l u : Int} (h : l ≤ 0) (h2 : 0 ≤ u) : bnd 0 l u := ⟨h, h2⟩
theorem sh0_bd : bdR sh0 := by
  intro f i
  by_cases c : f = 4
  · subst c
    refine ⟨fun e => ?_, fun e => ?_, fun e => ?_, fun e => ?_⟩ <;> subst e <;> exact ⟨by decide, by decide⟩
  · rw [sh0_at c]
    unfold bok
    split <;> first | trivial | exact bz (by decide) (by decide) | exact absurd rfl c
theorem z_late {k : Nat} : (f_X2_daysLate σ k ≤ 0) = ¬ (0 < f_X2_daysLate σ k) := propext Int32.not_lt.symm
theorem sub_sub_c (s g m : Int32) : s - g - m = s - (g + m) := by
  rw [Int32.sub_eq_add_neg, Int32.sub_eq_add_neg, Int32.sub_eq_add_neg, Int32.neg_add, Int32.add_assoc]
  first | rfl | rw [Int32.sub_eq_add_neg]
theorem add_r (a b c : Int32) : a + b + c = a + c + b := by rw [Int32.add_assoc, Int32.add_comm b c, ← Int32.add_assoc]
theorem ag_1 (a b w u : Int32) : a + w - (b + u) = a - b + (w - u) := by
  rw [← sub_sub_c, Int32.sub_eq_add_neg (a + w), add_r, ← Int32.sub_eq_add_neg, Int32.sub_eq_add_neg (a - b + w), Int32.add_assoc, ← Int32.sub_eq_add_neg]
end RL

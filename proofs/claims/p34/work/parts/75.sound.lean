/-! ===== what isSound asks holds of every rental ===== -/
section SOUND
variable {σ : ST}
theorem ndl {a b : Nat} (h : ¬ a ≤ b) : b < a := Nat.lt_of_not_le h
theorem q_sum1 (h : bq σ) : f_X2_numberOf σ 9 = (hG σ 0 + hG σ 1) + hG σ 4 := by
  have e : f_X2_numberOf σ 9 = (f_X2_copiesIn σ (nI 0) + f_X2_copiesIn σ (nI 1)) + f_X2_copiesIn σ (nI 4) := rfl
  rw [e, hG_in h (by decide), hG_in h (by decide), hG_in h (by decide)]
theorem q_sum2 (h : bq σ) : (((hG σ 0 + hG σ 1) + hG σ 2) + hG σ 3) + hG σ 4 = f_X2_numberOf σ 1 := (hG_all h).trans (num_1 h.1).symm
theorem q_sum4 (h : INV σ) : g_L_isSound_385 σ 9 0 0 = ((f_X2_sumOf σ 0 + f_X2_sumOf σ 1) + f_X2_sumOf σ 2) + f_X2_sumOf σ 3 := by
  have e : sI (fun k => f_X2_customerNumber σ (nI k) 2) 8 = sI (fun x => σ 17 x) 8 := sI_congr (fun x hx => up2 hx)
  rw [s_charged, e, iv_s h]
  rfl
theorem q_sum5 : f_X2_sumOf σ 7 = ((100000000 + g_L_isSound_698 σ 6 0 0) - f_X2_sumOf σ 5) - f_X2_sumOf σ 6 := by
  rw [s_got, bp7]
  show _ = ((100000000 + (((((0 + σ 16 0) + σ 16 1) + σ 16 2) + σ 16 3) + σ 16 4)) - σ 16 5) - σ 16 6
  rw [i_z]
theorem q_dem (h : okS σ) {t : Nat} (ht : t < nT σ) : f_X2_titleProperty σ (nI t) 2 = g_L_isSound_466 σ t (nC σ + 1) 0 0 := by
  rw [tp2 h ht, s_demandOf, s_dem]
  refine sI_congr (fun k hk => ?_)
  show (if σ 7 k = nI t then σ 9 k else 0) = if f_X2_courseProperty σ (nI k) 0 = nI t then f_X2_courseProperty σ (nI k) 2 else 0
  rw [op0 h hk, op2 h hk]
theorem q_want (h : bq σ) {t : Nat} (ht : t < nT σ) : f_X2_titleProperty σ (nI t) 4 = (if g_L_isSound_466 σ t (nC σ + 1) 0 0 ≤ f_X2_titleProperty σ (nI t) 3 then 0 else g_L_isSound_466 σ t (nC σ + 1) 0 0 - f_X2_titleProperty σ (nI t) 3) := by
  rw [← q_dem h.1 ht, tp2 h.1 ht, tp3 h.1 ht, tp4 h.1 ht]
  exact (max_sub (b_demand h _) (b_supply h _)).symm
theorem q_sup (h : okS σ) {t : Nat} (ht : t < nT σ) : ¬ f_X2_titleProperty σ (nI t) 5 < f_X2_titleProperty σ (nI t) 3 := by
  rw [tp5 h ht, tp3 h ht, n_copiesOf, n_supplyOf]
  have := sN_le1 (p := fun k => σ 10 k = nI t) h
  refine nI_nlt (sN_le (fun k _ => ?_)) (by omega)
  show (if (σ 13 k = 0 ∨ σ 13 k = 1) ∧ σ 10 k = nI t ∧ ¬ f_X2_isOfUse σ (nI t) (σ 11 k) = 0 then 1 else 0) ≤ (if σ 10 k = nI t then 1 else 0)
  by_cases c : (σ 13 k = 0 ∨ σ 13 k = 1) ∧ σ 10 k = nI t ∧ ¬ f_X2_isOfUse σ (nI t) (σ 11 k) = 0
  · rw [if_pos c, if_pos c.2.1]; exact Nat.le_refl _
  · rw [if_neg c]; exact Nat.zero_le _
theorem q_ins (h : okS σ) {t : Nat} (ht : t < nT σ) : f_X2_titleProperty σ (nI t) 6 ≤ f_X2_titleProperty σ (nI t) 5 := by
  rw [tp5 h ht, tp6 h ht, n_copiesOf, n_copiesOfIn]
  have := sN_le1 (p := fun k => σ 10 k = nI t) h
  refine nI_le (sN_le (fun k _ => ?_)) (by omega)
  show (if σ 10 k = nI t ∧ σ 13 k = 0 then 1 else 0) ≤ (if σ 10 k = nI t then 1 else 0)
  by_cases c : σ 10 k = nI t ∧ σ 13 k = 0
  · rw [if_pos c, if_pos c.1]; exact Nat.le_refl _
  · rw [if_neg c]; exact Nat.zero_le _
theorem q_next (h : okS σ) {j : Nat} (hj : j < nC σ) : ((if f_X2_nextCopy σ (nI j) < 0 then 0 else 1 : Int32) = (if f_X2_courseProperty σ (nI j) 3 ≤ 0 then 0 else 1)) := by
  rw [np h hj, op3 h hj, n_stockFor]
  have b60 := sN_le1 (p := fun k => σ 13 k = 0 ∧ ¬ f_X2_suits σ k j = 0) h
  rcases best_spec h j with ⟨e, q⟩ | ⟨b, hb, e, q⟩
  · have e0 : sN (fun k => if σ 13 k = 0 ∧ ¬ f_X2_suits σ k j = 0 then 1 else 0) (nN σ) = sN (fun _ => 0) (nN σ) := sN_congr (fun k hk => if_neg (q k hk))
    rw [e, e0, sN_zero]
    rfl
  · have m := sN_mem (f := fun k => if σ 13 k = 0 ∧ ¬ f_X2_suits σ k j = 0 then 1 else 0) hb
    have m2 : (if σ 13 b = 0 ∧ ¬ f_X2_suits σ b j = 0 then 1 else 0) = 1 := if_pos q
    have m3 : 1 ≤ sN (fun k => if σ 13 k = 0 ∧ ¬ f_X2_suits σ k j = 0 then 1 else 0) (nN σ) := Nat.le_trans (Nat.le_of_eq m2.symm) m
    rw [e, if_neg (best_nn h hb), if_neg (nI_nle (by omega) (by omega))]
theorem next_ok (h : okS σ) {j : Nat} (hj : j < nC σ) (hn : ¬ f_X2_nextCopy σ (nI j) < 0) : ∃ b, b < nN σ ∧ f_X2_nextCopy σ (nI j) = nI b ∧ okC σ j b := by
  rw [np h hj] at hn ⊢
  rcases best_spec h j with ⟨e, q⟩ | q
  · rw [e] at hn; exact absurd (by decide) hn
  · exact q
theorem q_n3 (h : okS σ) {j : Nat} (hj : j < nC σ) (hn : ¬ f_X2_nextCopy σ (nI j) < 0) : f_X2_copyProperty σ (f_X2_nextCopy σ (nI j)) 3 = 0 := by
  obtain ⟨b, hb, e, q⟩ := next_ok h hj hn
  rw [e, cp3 h hb]; exact q.1
theorem su_iff {k j : Nat} : ¬ f_X2_suits σ k j = 0 ↔ (σ 7 j = σ 10 k ∧ ¬ σ 11 k < σ 8 j) := by
  rw [su2]
  exact ⟨fun q => Decidable.byContradiction q, fun q z => z q⟩
theorem q_n0 (h : okS σ) {j : Nat} (hj : j < nC σ) (hn : ¬ f_X2_nextCopy σ (nI j) < 0) : f_X2_copyProperty σ (f_X2_nextCopy σ (nI j)) 0 = f_X2_courseProperty σ (nI j) 0 := by
  obtain ⟨b, hb, e, q⟩ := next_ok h hj hn
  rw [e, cp0 h hb, op0 h hj]; exact (su_iff.mp q.2).1.symm
theorem q_n1 (h : okS σ) {j : Nat} (hj : j < nC σ) (hn : ¬ f_X2_nextCopy σ (nI j) < 0) : f_X2_courseProperty σ (nI j) 1 ≤ f_X2_copyProperty σ (f_X2_nextCopy σ (nI j)) 1 := by
  obtain ⟨b, hb, e, q⟩ := next_ok h hj hn
  rw [e, cp1 h hb, op1 h hj]; exact Int32.not_lt.mp (su_iff.mp q.2).2
theorem rent_n {x : Nat} : f_X2_rentedBy σ (nI x) = nI (cR σ x) := n_rentedBy (nI x)
theorem q_cu0 (h : bq σ) {x : Nat} (hx : x < 8) : f_X2_customerNumber σ (nI x) 0 = hG σ (5 + x) := by rw [up0 hx, rent_n, hG_hi h hx]
theorem q_cu4 (h : INV σ) {x : Nat} (hx : x < 8) : ¬ 4 < hG σ (5 + x) := by
  rw [hG_hi (iv_q h) hx]
  exact nI_nlt (b := cR σ x) (a := 4) (iv_r h hx) (by decide)
theorem q_cu1 (h : bq σ) {x : Nat} (hx : x < 8) : f_X2_customerNumber σ (nI x) 1 ≤ hG σ (5 + x) := by
  rw [up1 hx, hG_hi h hx, n_lateBy]
  have := sN_le1 (p := fun k => ¬ f_X2_isRentedBy σ k (nI x) = 0) h.1
  refine nI_le (sN_le (fun k _ => ?_)) (by unfold cR; omega)
  show (if ¬ f_X2_isRentedBy σ k (nI x) = 0 ∧ ¬ f_X2_daysLate σ k ≤ 0 then 1 else 0) ≤ (if ¬ f_X2_isRentedBy σ k (nI x) = 0 then 1 else 0)
  by_cases c : ¬ f_X2_isRentedBy σ k (nI x) = 0 ∧ ¬ f_X2_daysLate σ k ≤ 0
  · rw [if_pos c, if_pos c.1]; exact Nat.le_refl _
  · rw [if_neg c]; exact Nat.zero_le _
theorem q_st (h : bq σ) {j : Nat} (hj : j < 5) : f_X2_numberOf σ (nI (4 + j)) = hG σ j := by
  rw [← hG_in h hj]
  rcases (show j = 0 ∨ j = 1 ∨ j = 2 ∨ j = 3 ∨ j = 4 by omega) with rfl | rfl | rfl | rfl | rfl <;> rfl
theorem q_c3 (h : bq σ) {k : Nat} (hk : k < nN σ) : f_X2_copyProperty σ (nI k) 3 = nI (stt σ k) ∧ stt σ k < 5 := by rw [cp3 h.1 hk]; exact st5 h hk
theorem r_nn (h : bq σ) {k : Nat} (hk : k < nN σ) (c : σ 13 k = 1) : ¬ σ 14 k < 0 := by
  obtain ⟨r1, r2⟩ := okS_r h.1 hk c
  rw [r1]; exact nI_pos (by omega)
theorem q_c4 (h : bq σ) {k : Nat} (hk : k < nN σ) : ((if f_X2_copyProperty σ (nI k) 3 = 1 then 1 else 0 : Int32) = (if f_X2_copyProperty σ (nI k) 4 < 0 then 0 else 1)) := by
  rw [cp3 h.1 hk, cp4 h.1 hk]
  by_cases c : σ 13 k = 1
  · rw [if_pos c, if_pos c, if_neg (r_nn h hk c)]
  · rw [if_neg c, if_neg c]; rfl
theorem q_c5 (h : bq σ) {k : Nat} (hk : k < nN σ) : ((if f_X2_copyProperty σ (nI k) 3 = 1 then 1 else 0 : Int32) = (if f_X2_copyProperty σ (nI k) 5 < 0 then 0 else 1)) := by
  rw [cp3 h.1 hk, cp5 h.1 hk]
  by_cases c : σ 13 k = 1
  · rw [if_pos c, if_pos c, if_neg (Int32.not_lt.mpr (b_nn (rl_b15 h (rl_60 h hk)) (by decide)))]
  · rw [if_neg c, if_neg c]; rfl
theorem q_c6 (h : bq σ) {k : Nat} (hk : k < nN σ) : ¬ f_X2_copyProperty σ (nI k) 6 < 0 := by
  rw [cp6 h.1 hk]; exact Int32.not_lt.mpr (b_nn (b_worth h hk) (by decide))
theorem q_price (h : INV σ) {k : Nat} (hk : k < nN σ) : ¬ f_X2_titleProperty σ (f_X2_copyProperty σ (nI k) 0) 0 < f_X2_copyProperty σ (nI k) 6 := by
  have hq := iv_q h
  rw [cp0 hq.1 hk, (okS_t hq.1 hk).1, tp0 hq.1 (iv_t h hk), cp6 hq.1 hk, Int32.lt_iff_toInt_lt]
  have := worth_le hq (t := tOf σ k) (b_cur hq hk) (rl_b11 hq (rl_60 hq hk)) (rl_b12 hq k)
  exact Int.not_lt.mpr this
theorem q_c7 (h : okS σ) {k : Nat} (hk : k < nN σ) : f_X2_copyProperty σ (nI k) 7 = (f_X2_copyProperty σ (nI k) 6 * 30) / 100 := by rw [cp7 h hk, cp6 h hk]; rfl
theorem q_c8 (h : okS σ) {k : Nat} (hk : k < nN σ) : f_X2_copyProperty σ (nI k) 8 = (f_X2_copyProperty σ (nI k) 6 * 75) / 100 := by rw [cp8 h hk, cp6 h hk]; rfl
theorem max_sub2 {d s : Int32} (b1 : bnd d 0 100000) (b2 : bnd s 0 100200) : (if d ≤ s then 0 else d - s) = (if 0 < d - s then d - s else 0) := by
  have e1 := b_sub b1 b2
  have z0 : (0 : Int32).toInt = 0 := by decide
  by_cases q : d ≤ s
  · rw [if_pos q, if_neg]
    rw [Int32.le_iff_toInt_le] at q
    rw [Int32.lt_iff_toInt_lt, e1]
    omega
  · rw [if_neg q, if_pos]
    rw [Int32.le_iff_toInt_le] at q
    rw [Int32.lt_iff_toInt_lt, e1]
    omega
theorem q_c10 (h : bq σ) {k : Nat} (hk : k < nN σ) : f_X2_copyProperty σ (nI k) 10 = (if f_X2_copyProperty σ (nI k) 3 = 1 then (if f_X2_numberOf σ 3 ≤ f_X2_copyProperty σ (nI k) 5 then 0 else f_X2_numberOf σ 3 - f_X2_copyProperty σ (nI k) 5) else 0) := by
  have e3 : f_X2_numberOf σ 3 = σ 0 0 := rfl
  rw [cp10 h.1 hk, cp3 h.1 hk, cp5 h.1 hk, e3]
  by_cases c : σ 13 k = 1
  · rw [if_pos c, if_pos c, if_pos c]
    exact (max_sub2 (rl_b0 h) (rl_b15 h (rl_60 h hk))).symm
  · rw [if_neg c, if_neg c]
theorem q_mono (h : bq σ) {c k : Nat} (hc : c < nN σ) (hk : k < nN σ) (h0 : f_X2_copyProperty σ (nI k) 0 = f_X2_copyProperty σ (nI c) 0) (h1 : ¬ f_X2_copyProperty σ (nI c) 1 < f_X2_copyProperty σ (nI k) 1) (h2 : ¬ f_X2_copyProperty σ (nI k) 2 < f_X2_copyProperty σ (nI c) 2) : f_X2_copyProperty σ (nI k) 6 ≤ f_X2_copyProperty σ (nI c) 6 := by
  rw [cp0 h.1 hk, cp0 h.1 hc] at h0
  rw [cp1 h.1 hk, cp1 h.1 hc, Int32.lt_iff_toInt_lt] at h1
  rw [cp2 h.1 hk, cp2 h.1 hc, Int32.lt_iff_toInt_lt] at h2
  rw [cp6 h.1 hk, cp6 h.1 hc, Int32.le_iff_toInt_le]
  have et : tOf σ k = tOf σ c := congrArg tn h0
  unfold f_X2_worthOf
  rw [et]
  exact worth_mono h (b_cur h hc) (b_cur h hc) (rl_b11 h (rl_60 h hk)) (rl_b11 h (rl_60 h hc)) (rl_b12 h k) (rl_b12 h c) (Int.le_refl _) (Int.not_lt.mp h1) (Int.not_lt.mp h2)
theorem q_r (h : bq σ) {k : Nat} (hk : k < nN σ) (c : f_X2_copyProperty σ (nI k) 3 = 1) : f_X2_copyProperty σ (nI k) 4 = nI (rOf σ k) ∧ rOf σ k < 8 := by
  rw [cp3 h.1 hk] at c
  rw [cp4 h.1 hk, if_pos c]
  exact okS_r h.1 hk c
theorem sound (h : INV σ) : F_isSound σ :=
  ⟨q_sum1 (iv_q h), q_sum2 (iv_q h), (all_t h).trans (num_1 (iv_ok h)).symm, q_sum4 h, q_sum5, served_le (iv_q h), fun t ht => q_dem (iv_ok h) (ndl ht), fun t ht => q_want (iv_q h) (ndl ht), fun t ht => q_sup (iv_ok h) (ndl ht), fun t ht => q_ins (iv_ok h) (ndl ht),
    fun _ j _ hj => q_next (iv_ok h) (ndl hj), fun _ j _ hj hn => q_n3 (iv_ok h) (ndl hj) hn, fun _ j _ hj hn => q_n0 (iv_ok h) (ndl hj) hn, fun _ j _ hj hn => q_n1 (iv_ok h) (ndl hj) hn,
    fun x hx => q_cu0 (iv_q h) (ndl hx), fun x hx => q_cu4 h (ndl hx), fun x hx => q_cu1 (iv_q h) (ndl hx), fun j hj => q_st (iv_q h) (ndl hj),
    fun k hk => q_c3 (iv_q h) (ndl hk), fun k hk => q_c4 (iv_q h) (ndl hk), fun k hk => q_c5 (iv_q h) (ndl hk), fun k hk => q_c6 (iv_q h) (ndl hk), fun k hk => q_price h (ndl hk), fun k hk => q_c7 (iv_ok h) (ndl hk), fun k hk => q_c8 (iv_ok h) (ndl hk), fun k hk => q_c10 (iv_q h) (ndl hk),
    fun c k hc _ hk h0 h1 h2 => q_mono (iv_q h) (ndl hc) (ndl hk) h0 h1 h2, fun k hk c => q_r (iv_q h) (ndl hk) c, fun c k hc _ hk h0 h1 h2 => q_mono (iv_q h) (ndl hc) (ndl hk) h0 h1 h2⟩
end SOUND

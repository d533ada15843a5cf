/-! ===== small numbers of the script; the first calls and the last ones ===== -/
section ENDS
variable {σ : ST}
theorem low_n (x : Int32) {n : Nat} (h1 : 0 < n) (hn : n < 2 ^ 31) : ∃ j, j < n ∧ f_L_low x (nI n) = nI j := by
  have e := pk_and x (m := 2147483647) 31 (by decide)
  refine ⟨x.toBitVec.toNat % 2 ^ 31 % n, Nat.mod_lt _ h1, ?_⟩
  unfold f_L_low
  rw [e]
  exact pk_rem (Nat.mod_lt _ (by decide)) h1 hn
theorem low_T (x : Int32) : ∃ nt : Nat, 1 + f_L_low x 3 = nI nt ∧ 1 ≤ nt ∧ nt ≤ 3 := by
  obtain ⟨j, hj, e⟩ := low_n x (n := 3) (by decide) (by decide)
  have e' : f_L_low x 3 = nI j := e
  exact ⟨1 + j, by rw [e']; exact nI_add 1 j, by omega, by omega⟩
theorem low_b (x : Int32) {n : Nat} (h1 : 0 < n) (hn : n ≤ 10000) (a : Nat) (ha : a ≤ 1000) : bnd (nI a + f_L_low x (nI n)) a (a + n - 1) := by
  obtain ⟨j, hj, e⟩ := low_n x h1 (by omega)
  rw [e, nI_add]
  have t := nI_toInt (n := a + j) (by omega)
  exact ⟨by rw [t]; omega, by rw [t]; omega⟩
theorem btw_of {x a b : Int32} (h : a.toInt ≤ x.toInt) (h2 : x.toInt ≤ b.toInt) : ¬ f_X2_isBetween x a b = 0 := by
  unfold f_X2_isBetween
  rw [if_neg (by rw [Int32.lt_iff_toInt_lt]; omega), if_neg (by rw [Int32.lt_iff_toInt_lt]; omega)]
  decide
theorem no_title (h : okS σ) : f_X2_hasTitle σ 6 = 0 := Decidable.byContradiction (fun q => by
  have := (hasTitle_ok h q).1
  have e : tn 6 = 6 := by decide
  have := (okS_b h).1
  omega)
theorem no_course (h : okS σ) : f_X2_hasCourse σ 6 = 0 := Decidable.byContradiction (fun q => by
  have := (hasCourse_ok h q).1
  have e : tn 6 = 6 := by decide
  have := (okS_b h).2.1
  omega)
theorem no_copy (h : okS σ) : f_X2_hasCopy σ 60 = 0 := Decidable.byContradiction (fun q => by
  have := (hasCopy_ok h q).1
  have e : tn 60 = 60 := by decide
  have := (okS_b h).2.2
  omega)
theorem title_0 (h : okS σ) (h1 : 1 ≤ nT σ) : ¬ f_X2_hasTitle σ 0 = 0 := htt h (k := 0) h1
theorem z_1 : m_X2_putTitle σ 99 1 = (-3, σ) := by unfold m_X2_putTitle; rw [if_pos (by decide)]
theorem z_2 (h : okS σ) : m_X2_changePrice σ 6 100 = (-2, σ) := by unfold m_X2_changePrice; rw [if_pos (no_title h)]
theorem z_3 (h : okS σ) : m_X2_putCourse σ 6 1 1 = (-2, σ) := by unfold m_X2_putCourse; rw [if_pos (no_title h)]
theorem z_4 (h : okS σ) (h1 : 1 ≤ nT σ) : m_X2_putCourse σ 0 31 1 = (-3, σ) := by unfold m_X2_putCourse; rw [if_neg (title_0 h h1), if_pos (show f_X2_isEdition 31 = 0 by decide)]
theorem z_5 : m_X2_changeSetting σ 4 0 = (-2, σ) := by unfold m_X2_changeSetting; rw [if_pos (by decide)]
theorem z_6 : m_X2_changeSetting σ 0 9 = (-3, σ) := by unfold m_X2_changeSetting; rw [if_neg (show ¬ f_X2_isBetween 0 0 3 = 0 by decide), if_pos (show f_X2_isBetween 9 (sLow (tn 0)) (sHigh (tn 0)) = 0 by decide)]
theorem z_7 (h : okS σ) (h1 : 1 ≤ nT σ) : m_X2_buyNew σ 0 21 = (-3, σ) := by unfold m_X2_buyNew; rw [if_neg (title_0 h h1), if_pos (show f_X2_isBetween 21 1 20 = 0 by decide)]
theorem z_8 (h : okS σ) (h1 : 1 ≤ nT σ) : f_X2_offerFor σ 0 0 0 = -3 := by unfold f_X2_offerFor; rw [if_neg (title_0 h h1), if_pos (show f_X2_isEdition 0 = 0 by decide)]
theorem z_9 (h : okS σ) : m_X2_sellCopy σ 60 = (-2, σ) := by unfold m_X2_sellCopy; rw [if_pos (no_copy h)]
theorem z_10 : m_X2_rentCopy σ 8 0 = (-2, σ) := by unfold m_X2_rentCopy; rw [if_pos (by decide)]
theorem z_11 (h : okS σ) : f_X2_nextCopy σ 6 = -2 := by unfold f_X2_nextCopy; rw [if_pos (no_course h)]
theorem z_12 (h : okS σ) : f_X2_chargeFor σ 60 0 0 = -2 := by unfold f_X2_chargeFor; rw [if_pos (no_copy h)]
theorem z_13 : m_X2_passDays σ 401 = (-3, σ) := by unfold m_X2_passDays; rw [if_pos (by decide)]
theorem z_14 (h : okS σ) (h1 : 1 ≤ nT σ) : m_X2_countShelf σ 0 61 = (-3, σ) := by unfold m_X2_countShelf; rw [if_neg (title_0 h h1), if_pos (show f_X2_isBetween 61 0 60 = 0 by decide)]
theorem z_15 : f_X2_customerNumber σ 8 0 = -2 := by unfold f_X2_customerNumber; rw [if_pos (by decide)]
theorem z_16 : f_X2_lostAfter σ 0 = -3 := by unfold f_X2_lostAfter; rw [if_pos (by decide)]
theorem z_17 : f_X2_sumOf σ 8 = -3 := by unfold f_X2_sumOf; rw [if_pos (by decide)]
theorem n0_T : nT sh0 = 0 := rfl
theorem n0_C : nC sh0 = 0 := rfl
theorem n0_N : nN sh0 = 0 := rfl
theorem a_1 : f_X2_servedStudents sh0 = 0 := by rw [s_served, n0_T]; rfl
theorem a_2 : f_X2_sumOf sh0 7 = 100000000 := by decide +kernel
theorem a_3 : m_X2_rentCopy sh0 0 0 = (-2, sh0) := by
  unfold m_X2_rentCopy
  rw [if_neg (show ¬ f_X2_hasCustomer 0 = 0 by decide), if_pos (show f_X2_hasCourse sh0 0 = 0 by decide +kernel)]
theorem a_4 : f_X2_copyProperty sh0 0 0 = -2 := by
  unfold f_X2_copyProperty
  rw [if_pos (show f_X2_hasCopy sh0 0 = 0 by decide +kernel)]
theorem sh0_inv : INV sh0 := by
  refine ⟨⟨sh0_ok, sh0_bd⟩, fun t ht => ?_, fun k hk => ?_, fun x _ => ?_, ?_⟩
  · rw [n0_T] at ht; exact absurd ht (Nat.not_lt_zero _)
  · rw [n0_N] at hk; exact absurd hk (Nat.not_lt_zero _)
  · unfold cR; rw [n0_N]; exact Nat.zero_le _
  · decide +kernel
end ENDS

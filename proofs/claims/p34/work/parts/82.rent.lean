/-! ===== rents come true; calls that return an error change nothing ===== -/
section RENT
variable {σ : ST}
def rtS (σ : ST) (b : Nat) : ST := shU (shU (shU (shU (shU σ 13 b 1) 14 b 3) 15 b (σ 0 0 + σ 4 0)) 16 0 (σ 16 0 + f_X2_rentCost σ b)) 17 3 (σ 17 3 + f_X2_rentCost σ b)
theorem rtS_f (σ : ST) (b : Nat) : rtS σ b 13 b = 1 ∧ rtS σ b 14 b = 3 ∧ rtS σ b 15 b = σ 0 0 + σ 4 0 ∧ rtS σ b 17 3 = σ 17 3 + f_X2_rentCost σ b ∧ rtS σ b 0 0 = σ 0 0 ∧ rtS σ b 4 0 = σ 4 0 ∧ nN (rtS σ b) = nN σ := by
  unfold rtS
  generalize f_X2_rentCost σ b = w
  generalize σ 0 0 + σ 4 0 = u
  refine ⟨?_, ?_, ?_, ?_, rfl, rfl, rfl⟩
  · exact shU_eq (σ := σ) (f := 13) (k := b) (x := 1)
  · exact shU_eq (σ := shU σ 13 b 1) (f := 14) (k := b) (x := 3)
  · exact shU_eq (σ := shU (shU σ 13 b 1) 14 b 3) (f := 15) (k := b) (x := u)
  · exact shU_eq (σ := shU (shU (shU (shU σ 13 b 1) 14 b 3) 15 b u) 16 0 (σ 16 0 + w)) (f := 17) (k := 3) (x := σ 17 3 + w)
theorem rent_cases (h : okS σ) {j : Nat} (hj : j < nC σ) : m_X2_rentCopy σ 3 (nI j) = (-4, σ) ∨ ∃ b, b < nN σ ∧ f_X2_bestFor σ j = nI b ∧ m_X2_rentCopy σ 3 (nI j) = (nI b, rtS σ b) := by
  unfold m_X2_rentCopy
  rw [if_neg (show ¬ f_X2_hasCustomer 3 = 0 by decide), if_neg (hcc h hj), tnC h hj]
  by_cases c : f_X2_bestFor σ j = (-1)
  · rw [if_pos c]; exact Or.inl rfl
  · rw [if_neg c]
    obtain ⟨b1, b2, _⟩ := best_in h c
    by_cases d : f_X2_canRent σ 3 (σ 7 j) = 0
    · rw [if_pos d]; exact Or.inl rfl
    · rw [if_neg d]
      exact Or.inr ⟨tn (f_X2_bestFor σ j), b1, b2, by rw [← b2]; rfl⟩
theorem rent_e (h : okS σ) {j : Nat} (hj : j < nC σ) (q : (m_X2_rentCopy σ 3 (nI j)).1 < 0) : (m_X2_rentCopy σ 3 (nI j)).1 = (-4) ∧ (m_X2_rentCopy σ 3 (nI j)).2 = σ := by
  rcases rent_cases h hj with e | ⟨b, hb, e1, e⟩
  · rw [e]; exact ⟨rfl, rfl⟩
  · rw [e] at q; exact absurd q (best_nn h hb)
theorem rent_v (h : okS σ) {j : Nat} (hj : j < nC σ) (q : ¬ (m_X2_rentCopy σ 3 (nI j)).1 < 0) : (m_X2_rentCopy σ 3 (nI j)).1 = f_X2_nextCopy σ (nI j) ∧
    f_X2_customerNumber (m_X2_rentCopy σ 3 (nI j)).2 3 2 = f_X2_customerNumber σ 3 2 + (if 0 ≤ f_X2_nextCopy σ (nI j) then f_X2_copyProperty σ (f_X2_nextCopy σ (nI j)) 7 else 0) ∧
    f_X2_copyProperty (m_X2_rentCopy σ 3 (nI j)).2 (m_X2_rentCopy σ 3 (nI j)).1 4 = 3 ∧
    f_X2_copyProperty (m_X2_rentCopy σ 3 (nI j)).2 (m_X2_rentCopy σ 3 (nI j)).1 5 = f_X2_numberOf (m_X2_rentCopy σ 3 (nI j)).2 3 + f_X2_numberOf (m_X2_rentCopy σ 3 (nI j)).2 10 := by
  have ok2 := rentCopy_ok h 3 (nI j)
  rcases rent_cases h hj with e | ⟨b, hb, e1, e⟩
  · rw [e] at q; exact absurd (show (-4 : Int32) < 0 by decide) q
  · rw [e] at ok2 ⊢
    have ok2 : okS (rtS σ b) := ok2
    obtain ⟨f1, f2, f3, f4, f5, f6, f7⟩ := rtS_f σ b
    have hb2 : b < nN (rtS σ b) := by rw [f7]; exact hb
    have u3 : ∀ τ : ST, f_X2_customerNumber τ 3 2 = τ 17 3 := fun τ => up2 (σ := τ) (x := 3) (by decide)
    have en : f_X2_nextCopy σ (nI j) = nI b := by rw [np h hj, e1]
    have g0 : f_X2_numberOf (rtS σ b) 3 = σ 0 0 := f5
    have g4 : f_X2_numberOf (rtS σ b) 10 = σ 4 0 := f6
    rw [en]
    refine ⟨rfl, ?_, ?_, ?_⟩
    · show f_X2_customerNumber (rtS σ b) 3 2 = _
      rw [u3, u3, f4, if_pos (Int32.not_lt.mp (best_nn h hb)), cp7 h hb]
    · show f_X2_copyProperty (rtS σ b) (nI b) 4 = 3
      rw [cp4 ok2 hb2, if_pos f1, f2]
    · show f_X2_copyProperty (rtS σ b) (nI b) 5 = f_X2_numberOf (rtS σ b) 3 + f_X2_numberOf (rtS σ b) 10
      rw [cp5 ok2 hb2, if_pos f1, f3, g0, g4]
/-! what returns an error changes nothing -/
theorem nn_no {x : Int32} {a b : Int} (h : bnd x a b) (ha : 0 ≤ a) (q : x < 0) : False := Int32.not_lt.mpr (b_nn h ha) q
theorem nIneg {n : Nat} (h : n < 2 ^ 31) (q : nI n < 0) : False := nI_pos h q
def eR (σ : ST) (w : MS) : Prop := w.1 < 0 → w.2 = σ
theorem eR_i {w1 w2 : MS} {p : Prop} [Decidable p] (h1 : p → eR σ w1) (h2 : ¬ p → eR σ w2) : eR σ (if p then w1 else w2) := by
  by_cases c : p
  · rw [if_pos c]; exact h1 c
  · rw [if_neg c]; exact h2 c
theorem eR_s (v : Int32) : eR σ (v, σ) := fun _ => rfl
theorem eR_b {v : Int32} {τ : ST} {a b : Int} (h : bnd v a b) (ha : 0 ≤ a) : eR σ (v, τ) := fun q => (nn_no h ha q).elim
theorem eR_n {n : Nat} {v : Int32} {τ : ST} (e : v = nI n) (h : n < 2 ^ 31) : eR σ (v, τ) := fun q => (nIneg h (e ▸ (show v < 0 from q))).elim
theorem e_addTitle (h : bq σ) (x y : Int32) : eR σ (m_X2_putTitle σ x y) := by
  unfold m_X2_putTitle
  refine eR_i (fun _ => eR_s _) (fun _ => eR_i (fun _ => eR_s _) (fun _ => eR_i (fun c => ?_) (fun _ => eR_s _)))
  exact eR_n (n := nT σ) (by rw [pred_1]; exact okS_1 h.1) (by omega)
theorem e_setPrice (h : bq σ) (x y : Int32) : eR σ (m_X2_changePrice σ x y) := by
  unfold m_X2_changePrice
  exact eR_i (fun _ => eR_s _) (fun _ => eR_i (fun _ => eR_s _) (fun _ => eR_b (rl_b5 h _) (by decide)))
theorem e_newEdition (h : bq σ) (x : Int32) : eR σ (m_X2_advanceEdition σ x) := by
  unfold m_X2_advanceEdition
  exact eR_i (fun _ => eR_s _) (fun c => eR_i (fun d => eR_b (b_ed1 (rl_b6 h (rl_6t h (hasTitle_ok h.1 c).1)) d) (by decide)) (fun _ => eR_s _))
theorem e_addCourse (h : bq σ) (x y z : Int32) : eR σ (m_X2_putCourse σ x y z) := by
  unfold m_X2_putCourse
  refine eR_i (fun _ => eR_s _) (fun _ => eR_i (fun _ => eR_s _) (fun _ => eR_i (fun _ => eR_s _) (fun _ => eR_i (fun c => ?_) (fun _ => eR_s _))))
  exact eR_n (n := nC σ) (by rw [pred_1]; exact okS_2 h.1) (by omega)
theorem e_setCourse (h : bq σ) (x y z : Int32) : eR σ (m_X2_changeCourse σ x y z) := by
  unfold m_X2_changeCourse
  exact eR_i (fun _ => eR_s _) (fun c => eR_i (fun _ => eR_s _) (fun _ => eR_i (fun _ => eR_s _) (fun _ => eR_b (rl_b9 h (rl_6 h (hasCourse_ok h.1 c).1)) (by decide))))
theorem e_set (h : bq σ) (x y : Int32) : eR σ (m_X2_changeSetting σ x y) := by
  unfold m_X2_changeSetting
  exact eR_i (fun _ => eR_s _) (fun c => eR_i (fun _ => eR_s _) (fun _ => eR_b (b_set h (Nat.lt_succ_of_le (btwN 3 c (by decide) rfl (by decide)).1)) (by decide)))
theorem e_buy (h : bq σ) (x y : Int32) : eR σ (m_X2_buyNew σ x y) := by
  unfold m_X2_buyNew
  exact eR_i (fun _ => eR_s _) (fun _ => eR_i (fun _ => eR_s _) (fun _ => eR_i (fun _ => eR_n (okS_3 h.1) (by have := (okS_b h.1).2.2; omega)) (fun _ => eR_s _)))
theorem e_buyBack (h : bq σ) (x y z : Int32) : eR σ (m_X2_buyUsed σ x y z) := by
  unfold m_X2_buyUsed
  refine eR_i (fun _ => eR_i (fun _ => eR_s _) (fun _ => eR_i (fun c => ?_) (fun _ => eR_s _))) (fun _ => eR_s _)
  have e : (s_X2_putCopy σ x y z) 3 0 = σ 3 0 + 1 := rfl
  exact eR_n (n := nN σ) (by rw [e, pred_1]; exact okS_3 h.1) (by omega)
theorem e_sell (h : bq σ) (x : Int32) : eR σ (m_X2_sellCopy σ x) := by
  unfold m_X2_sellCopy
  refine eR_i (fun _ => eR_s _) (fun c => eR_i (fun _ => ?_) (fun _ => eR_s _))
  exact eR_b (b_pct (p := 75) (n := 75) (b_worth h (hasCopy_ok h.1 c).1) ⟨by decide, by decide⟩ (by decide)) (by decide)
theorem e_rent (h : bq σ) (x y : Int32) : eR σ (m_X2_rentCopy σ x y) := by
  unfold m_X2_rentCopy
  refine eR_i (fun _ => eR_s _) (fun _ => eR_i (fun _ => eR_s _) (fun _ => eR_i (fun _ => eR_s _) (fun c => eR_i (fun _ => eR_s _) (fun _ => ?_))))
  obtain ⟨b1, b2, _⟩ := best_in h.1 c
  exact eR_n b2 (by have := (okS_b h.1).2.2; omega)
theorem e_giveBack (h : bq σ) (x y : Int32) : eR σ (m_X2_takeBack σ x y) := by
  rcases told_cases h.1 x y with ⟨k, hk, rfl, hg, hs⟩ | ⟨v, hv, e1, e2⟩
  · rw [back_eq h.1 hk hg hs]
    intro q
    exact absurd (show f_X2_lateCharge σ k + f_X2_damageCharge σ k y < 0 from q) (Int32.not_lt.mpr (told_nn h hk hg))
  · rw [e2]; exact eR_s _
theorem e_pass (h : bq σ) (x : Int32) : eR σ (m_X2_passDays σ x) := by
  intro q
  by_cases c1 : f_X2_isBetween x 1 400 = 0
  · unfold m_X2_passDays; rw [if_pos c1]
  by_cases c2 : σ 0 0 + x ≤ 100000
  · exact absurd q (pass_v h c1 c2).2.2
  · unfold m_X2_passDays; rw [if_neg c1, if_neg c2]
theorem e_shelf (h : bq σ) (x y : Int32) : eR σ (m_X2_countShelf σ x y) := by
  unfold m_X2_countShelf
  refine eR_i (fun _ => eR_s _) (fun _ => eR_i (fun _ => eR_s _) (fun c => eR_i (fun d => ?_) (fun _ => eR_s _)))
  have b := b_add (b_ofIn h x 0) (b_ofIn h x 4)
  have by0 := bnd_btw c
  have l60 : (60 : Int32).toInt = 60 := by decide
  have l0 : (0 : Int32).toInt = 0 := by decide
  rw [l60, l0] at by0
  have s := b_sub b by0
  rw [Int32.le_iff_toInt_le] at d
  exact eR_b (a := 0) (b := 120) ⟨by rw [s]; omega, by rw [s]; have := b.2; have := by0.1; omega⟩ (by decide)
theorem e_changes (h : bq σ) (z : Int32) : eR σ (m_L_changes σ z) := by
  unfold m_L_changes
  exact eR_i (fun _ => e_addTitle h _ _) (fun _ => eR_i (fun _ => e_addCourse h _ _ _) (fun _ => eR_i (fun _ => e_setCourse h _ _ _) (fun _ => eR_i (fun _ => eR_i (fun _ => e_newEdition h _) (fun _ => e_setPrice h _ _)) (fun _ => eR_i (fun _ => e_set h _ _) (fun _ => eR_i (fun _ => e_buy h _ _) (fun _ => eR_i (fun _ => e_buy h _ _) (fun _ => eR_i (fun _ => e_buyBack h _ _ _) (fun _ => eR_i (fun _ => e_sell h _) (fun _ => eR_i (fun _ => e_rent h _ _) (fun _ => eR_i (fun _ => e_rent h _ _) (fun _ => eR_i (fun _ => e_rent h _ _) (fun _ => eR_i (fun _ => e_rent h _ _) (fun _ => eR_i (fun _ => e_giveBack h _ _) (fun _ => eR_i (fun _ => e_pass h _) (fun _ => eR_i (fun _ => e_pass h _) (fun _ => e_shelf h _ _))))))))))))))))
end RENT

/-! ===== what is told, the same of both ===== -/
section RL2
variable {σ : Nat → Nat → Int32} {μ : Nat → Nat → Int32}
theorem rb2 (k : Nat) (y : Int32) : (f_X2_isRentedBy σ k y = 0) = ¬ (σ 13 k = 1 ∧ σ 14 k = y) := by
  unfold f_X2_isRentedBy
  by_cases c : σ 13 k = 1
  · by_cases d : σ 14 k = y <;> simp [c, d]
  · simp [c]
theorem q_rentedBy (h : rl σ (μ 0)) (cu : Nat) : g_X4_customerNow_5 μ cu 0 (mN μ + 1) 0 0 = f_X2_rentedBy σ (nI cu) := by
  unfold f_X2_rentedBy
  rw [rl_N h]
  have g : ∀ (fu k : Nat) (a : Int32), g_X4_customerNow_5 μ cu 0 fu k a = g_X2_rentedBy_4 σ (nI cu) fu k a := by
    intro fu
    induction fu with
    | zero => intro k a; rfl
    | succ fu ih =>
      intro k a
      rw [g_X4_customerNow_5, g_X2_rentedBy_4, rl_N h]
      by_cases c : nN σ ≤ k
      · rw [if_pos c, if_pos c]
      · have kN := Nat.lt_of_not_le c
        have k6 := rl_60 h kN
        simp only [if_neg c, rl_is h k6, rb2, if_true, ite_not, Int32.add_zero, ih]
        by_cases a1 : σ 13 k = 1
        · rw [rl_o4 h kN a1]
          by_cases a2 : σ 14 k = nI cu <;> simp [a1, a2]
        · simp [a1]
  exact g _ _ _
theorem z_late {k : Nat} : (f_X2_daysLate σ k ≤ 0) = ¬ (0 < f_X2_daysLate σ k) := propext Int32.not_lt.symm
theorem q_lateBy (h : rl σ (μ 0)) (cu : Nat) : g_X4_customerNow_5 μ cu 1 (mN μ + 1) 0 0 = f_X2_lateBy σ (nI cu) := by
  unfold f_X2_lateBy
  rw [rl_N h]
  have g : ∀ (fu k : Nat) (a : Int32), g_X4_customerNow_5 μ cu 1 fu k a = g_X2_lateBy_4 σ (nI cu) fu k a := by
    intro fu
    induction fu with
    | zero => intro k a; rfl
    | succ fu ih =>
      intro k a
      rw [g_X4_customerNow_5, g_X2_lateBy_4, rl_N h]
      by_cases c : nN σ ≤ k
      · rw [if_pos c, if_pos c]
      · have kN := Nat.lt_of_not_le c
        have k6 := rl_60 h kN
        simp only [if_neg c, rl_is h k6, rb2, ite_not, Int32.add_zero, ih, e_late h kN, if_neg (show ¬ (1 : Int32) = 0 by decide)]
        by_cases a1 : σ 13 k = 1
        · rw [rl_o4 h kN a1]
          by_cases a2 : σ 14 k = nI cu <;> simp [a1, a2]
        · simp [a1]
  exact g _ _ _
theorem ga2 (k j : Nat) : (f_X2_goesAhead σ k j = 0) = ¬ ((σ 12 k = σ 12 j ∧ ¬ σ 11 j ≤ σ 11 k) ∨ (¬ σ 12 k = σ 12 j ∧ ¬ σ 12 k ≤ σ 12 j)) := by
  unfold f_X2_goesAhead
  by_cases c : σ 12 k = σ 12 j
  · by_cases d : σ 11 j ≤ σ 11 k <;> simp [c, d]
  · by_cases d : σ 12 k ≤ σ 12 j <;> simp [c, d]
theorem q_nextOf (h : rl σ (μ 0)) {j : Nat} (hj : j < 6) : f_X4_nextOf μ j = f_X2_bestFor σ j := by
  unfold f_X4_nextOf f_X2_bestFor
  rw [rl_N h]
  have g : ∀ (fu k : Nat) (a : Int32), a = -1 ∨ tn a < 60 → g_X4_nextOf_4 μ j fu k a = g_X2_bestFor_4 σ j fu k a := by
    intro fu
    induction fu with
    | zero => intro k a _; rfl
    | succ fu ih =>
      intro k a ha
      rw [g_X4_nextOf_4, g_X2_bestFor_4, rl_N h]
      by_cases c : nN σ ≤ k
      · rw [if_pos c, if_pos c]
      · have k6 := rl_60 h (Nat.lt_of_not_le c)
        have hk1 : nI k = -1 ∨ tn (nI k) < 60 := Or.inr (by rw [tn_nI (by omega)]; exact k6)
        simp only [if_neg c, tk4 h hj k6, su2, ga2, ite_not, ih _ _ ha, ih _ _ hk1]
        by_cases a1 : σ 13 k = 0
        · by_cases a2 : σ 7 j = σ 10 k ∧ ¬ σ 11 k < σ 8 j
          · by_cases a3 : a = -1
            · simp [a1, a2, a3]
            · have h6 : tn a < 60 := ha.resolve_left a3
              rw [rl_o2 h k6, rl_o2 h h6, rl_o1 h k6, rl_o1 h h6]
              rw [if_pos (show σ 13 k = 0 ∧ σ 7 j = σ 10 k ∧ ¬ σ 11 k < σ 8 j from ⟨a1, a2.1, a2.2⟩), if_neg a3, if_pos a1, if_pos a2, if_neg a3]
              by_cases a4 : σ 12 k = σ 12 (tn a)
              · have n1 : ¬ σ 12 (tn a) < σ 12 k := fun q => absurd q (by rw [a4]; exact Int32.lt_irrefl)
                rw [if_neg n1, if_pos a4]
                by_cases a5 : σ 11 (tn a) ≤ σ 11 k <;> simp [a4, a5]
              · rw [if_neg a4]
                by_cases a5 : σ 12 k ≤ σ 12 (tn a)
                · rw [if_neg (Int32.not_lt.mpr a5)]
                  simp [a4, a5]
                · rw [if_pos (Int32.not_le.mp a5)]
                  simp [a4, a5]
          · rw [if_neg (fun q => a2 q.2), if_pos a1, if_neg a2]
        · rw [if_neg (fun q => a1 q.1), if_neg a1]
  exact g _ _ _ (Or.inl rfl)
theorem q_canRent (h : rl σ (μ 0)) (x y : Int32) : f_X4_canRent μ x y = f_X2_canRent σ x y := by
  have n1 : ∀ (fu k : Nat) (a b : Int32), (g_X4_canRent_8 μ x y fu k a b).1 = g_X2_rentedBy_4 σ x fu k a := by
    intro fu
    induction fu with
    | zero => intro k a b; rfl
    | succ fu ih =>
      intro k a b
      rw [g_X4_canRent_8, g_X2_rentedBy_4, rl_N h]
      by_cases c : nN σ ≤ k
      · rw [if_pos c, if_pos c]
      · have kN := Nat.lt_of_not_le c
        have k6 := rl_60 h kN
        rw [if_neg c, if_neg c]
        simp only [rl_is h k6, rb2, ite_not]
        by_cases a1 : σ 13 k = 1
        · rw [rl_o4 h kN a1]
          by_cases a2 : σ 14 k = x
          · rw [if_pos a1, if_pos a2, if_pos (show σ 13 k = 1 ∧ σ 14 k = x from ⟨a1, a2⟩)]
            by_cases a3 : b = 0
            · rw [if_pos a3]
              by_cases a4 : f_X4_of μ k 0 = y
              · rw [if_pos a4, ih]
              · rw [if_neg a4, ih]
            · rw [if_neg a3, ih]
          · rw [if_pos a1, if_neg a2, if_neg (fun q => a2 q.2), ih]
        · rw [if_neg a1, if_neg (fun q => a1 q.1), ih]
  have n2 : ∀ (fu k : Nat) (a : Int32), (g_X4_canRent_8 μ x y fu k a 1).2 = 1 := by
    intro fu
    induction fu with
    | zero => intro k a; rfl
    | succ fu ih =>
      intro k a
      rw [g_X4_canRent_8, if_neg (show ¬ (1 : Int32) = 0 by decide)]
      (repeat' split) <;> first | rfl | exact ih ..
  have n3 : ∀ (fu k : Nat) (a : Int32), nN σ - k < fu → g_X2_canRent_2 σ x y fu k = if (g_X4_canRent_8 μ x y fu k a 0).2 = 0 then (if 4 ≤ f_X2_rentedBy σ x then 0 else 1) else 0 := by
    intro fu
    induction fu with
    | zero => intro k a q; omega
    | succ fu ih =>
      intro k a q
      rw [g_X4_canRent_8, g_X2_canRent_2, rl_N h]
      by_cases c : nN σ ≤ k
      · rw [if_pos c, if_pos c, if_pos rfl]
      · have kN := Nat.lt_of_not_le c
        have k6 := rl_60 h kN
        have q2 : nN σ - (k + 1) < fu := by omega
        rw [if_neg c, if_neg c]
        simp only [rl_is h k6, rl_o0 h k6, rb2, ite_not, if_true]
        by_cases a1 : σ 13 k = 1
        · rw [rl_o4 h kN a1]
          by_cases a2 : σ 14 k = x
          · rw [if_pos a1, if_pos a2, if_pos (show σ 13 k = 1 ∧ σ 14 k = x from ⟨a1, a2⟩)]
            by_cases a3 : σ 10 k = y
            · rw [if_pos a3, if_pos a3, n2, if_neg (show ¬ (1 : Int32) = 0 by decide)]
            · rw [if_neg a3, if_neg a3]; exact ih _ _ q2
          · rw [if_pos a1, if_neg a2, if_neg (fun q => a2 q.2)]; exact ih _ _ q2
        · rw [if_neg a1, if_neg (fun q => a1 q.1)]; exact ih _ _ q2
  have e1 : (g_X4_canRent_8 μ x y (nN σ + 1) 0 0 0).1 = f_X2_rentedBy σ x := n1 _ _ _ _
  unfold f_X4_canRent f_X2_canRent
  rw [rl_N h, e1, n3 (nN σ + 1) 0 0 (by omega)]
  by_cases a : (g_X4_canRent_8 μ x y (nN σ + 1) 0 0 0).2 = 0
  · rw [if_pos a, if_pos a]
  · rw [if_neg a, if_neg a, ite_self]
theorem q_lost (h : rl σ (μ 0)) (x : Int32) : f_X4_lostIn μ x = f_X2_lostAfter σ x := by
  unfold f_X4_lostIn f_X2_lostAfter
  have g : ∀ (fu k : Nat) (a : Int32), g_X4_lostIn_18 μ x fu k a = g_X2_lostAfter_18 σ x fu k a := by
    intro fu
    induction fu with
    | zero => intro k a; rfl
    | succ fu ih =>
      intro k a
      rw [g_X4_lostIn_18, g_X2_lostAfter_18, rl_N h]
      by_cases c : nN σ ≤ k
      · rw [if_pos c, if_pos c]
      · have kN := Nat.lt_of_not_le c
        have k6 := rl_60 h kN
        unfold f_X2_isLostOn
        simp only [if_neg c, rl_is h k6, ite_not, Int32.add_zero, ih, rl_day h, rl_set6 h]
        by_cases a1 : σ 13 k = 1
        · rw [rl_o5 h kN a1]
          by_cases a2 : σ 0 0 + x - σ 15 k ≤ σ 4 2 <;> simp [a1, a2]
        · simp [a1]
  rw [rl_N h, g]
  rfl
theorem q_number (h : rl σ (μ 0)) (w : Nat) (hw : w < 14) : f_X4_number μ w = f_X2_numberOf σ (nI w) := by
  unfold f_X4_number f_X2_numberOf
  simp only [q_inState h]
  match w, hw with
  | 0, _ => exact rl_e0 h
  | 1, _ => exact rl_e1 h
  | 2, _ => exact rl_e2 h
  | 3, _ => exact rl_day h
  | 4, _ => rfl
  | 5, _ => rfl
  | 6, _ => rfl
  | 7, _ => rfl
  | 8, _ => rfl
  | 9, _ => rfl
  | 10, _ => exact rl_set h (k := 0) (by decide)
  | 11, _ => exact rl_set h (k := 1) (by decide)
  | 12, _ => exact rl_set h (k := 2) (by decide)
  | 13, _ => exact rl_set h (k := 3) (by decide)
  | w + 14, q => exact absurd q (by omega)
end RL2

/-! ===== what is told, the same of both: charges, offers, students served ===== -/
section RL4
variable {σ : Nat → Nat → Int32} {μ : Nat → Nat → Int32}
theorem le_lt {α : Type} {a b : Int32} {x y : α} : (if a ≤ b then x else y) = (if b < a then y else x) := by
  by_cases c : a ≤ b
  · rw [if_pos c, if_neg (Int32.not_lt.mpr c)]
  · rw [if_neg c, if_pos (Int32.not_le.mp c)]
theorem min_eq2 {a b : Int32} : (if b ≤ a then b else a) = (if b < a then b else a) := by
  by_cases c : b < a
  · rw [if_pos c, if_pos (Int32.le_of_lt c)]
  · rw [if_neg c]
    by_cases d : b ≤ a
    · rw [if_pos d]
      rw [Int32.lt_iff_toInt_lt] at c
      rw [Int32.le_iff_toInt_le] at d
      exact Int32.toInt_inj.mp (by omega)
    · rw [if_neg d]
theorem e_damage (h : rl σ (μ 0)) {k : Nat} (hk : k < nN σ) (y : Int32) : f_X4_damageCharge μ k y = f_X2_damageCharge σ k y := by
  have k6 := rl_60 h hk
  have t6 := tOf_6 h hk
  unfold f_X4_damageCharge f_X2_damageCharge f_X2_isRuinedBy f_X2_worthWithGrade
  rw [rl_o2 h k6, rl_mt h k6, rl_o1 h k6, e_worthOf h hk, e_worthC h t6 (rl_b11 h k6), e_worthC h t6 (rl_b11 h k6)]
  by_cases c : σ 12 k + y ≤ 4
  · simp only [if_pos c, if_true]
  · simp only [if_neg c, if_neg (show ¬ (1 : Int32) = 0 by decide)]
theorem e_lateC (h : rl σ (μ 0)) {k : Nat} (hk : k < nN σ) (h1 : σ 13 k = 1) : f_X4_lateCharge μ k = f_X2_lateCharge σ k := by
  unfold f_X4_lateCharge f_X2_lateCharge f_X4_lesser
  rw [e_late h hk, if_pos h1, rl_set5 h, e_worthOf h hk]
  exact min_eq2
theorem q_charge (h : rl σ (μ 0)) (x y z : Int32) : f_X4_charge μ x y z = f_X2_chargeFor σ x y z := by
  unfold f_X4_charge f_X2_chargeFor f_X2_isGrade
  rw [e_isK h, e_in, e_in]
  by_cases c : f_X2_hasCopy σ x = 0
  · rw [if_pos c, if_pos c]
  · rw [if_neg c, if_neg c]
    obtain ⟨t1, t2⟩ := hasCopy_ok (rl_ok h) c
    simp only [rl_is h (rl_60 h t1), e_damage h t1, ite_not]
    by_cases a : σ 13 (tn x) = 1
    · rw [e_lateC h t1 a]
    · simp only [if_neg a]
theorem e_offered (h : rl σ (μ 0)) {t : Nat} (ht : t < 6) {y z : Int32} (hy : bnd y 0 30) : f_X4_offered μ t y z = (if (f_X2_isOfUse σ (nI t) y) = 0 then 0 else (if (f_X2_supplyOf σ (nI t)) < (f_X2_demandOf σ (nI t)) then ((f_X2_worthBy σ t (σ 6 t) y z) * 40) / 100 else (((f_X2_worthBy σ t (σ 6 t) y z) * 40) / 100) / 2)) := by
  unfold f_X4_offered
  rw [q_isOfUse h, q_supply h, q_demand h, e_worthC h ht hy]
theorem bnd_btw {x : Int32} {a b : Int32} (h : ¬ f_X2_isBetween x a b = 0) : bnd x a.toInt b.toInt := by
  have q := btw_nz h
  exact ⟨Int32.le_iff_toInt_le.mp q.1, Int32.le_iff_toInt_le.mp q.2⟩
theorem cannotOffer_z (h : rl σ (μ 0)) (x y z : Int32) : f_X4_cannotOffer μ x y z = (if f_X2_hasTitle σ x = 0 then -2 else if f_X2_isEdition y = 0 then -3 else if f_X2_isGrade z = 0 then -3 else 0) := by
  unfold f_X4_cannotOffer f_X2_isEdition f_X2_isGrade
  rw [e_isT h, e_in, e_in]
theorem ed_b {y : Int32} (d : ¬ f_X2_isEdition y = 0) : bnd y 0 30 := bnd_w (bnd_btw d) (by decide) (by decide)
theorem q_offer (h : rl σ (μ 0)) (x y z : Int32) : f_X4_offer μ x y z = f_X2_offerFor σ x y z := by
  unfold f_X4_offer f_X2_offerFor
  rw [cannotOffer_z h]
  by_cases c : f_X2_hasTitle σ x = 0
  · simp only [if_pos c, if_neg (show ¬ (-2 : Int32) = 0 by decide)]
  · obtain ⟨t1, t2⟩ := hasTitle_ok (rl_ok h) c
    have t6 := rl_6t h t1
    by_cases d : f_X2_isEdition y = 0
    · simp only [if_neg c, if_pos d, if_neg (show ¬ (-3 : Int32) = 0 by decide)]
    · by_cases e : f_X2_isGrade z = 0
      · simp only [if_neg c, if_neg d, if_pos e, if_neg (show ¬ (-3 : Int32) = 0 by decide)]
      · simp only [if_neg c, if_neg d, if_neg e, if_true]
        rw [e_offered h t6 (ed_b d), ← t2]
theorem q_next (h : rl σ (μ 0)) (x : Int32) : f_X4_next μ x = f_X2_nextCopy σ x := by
  unfold f_X4_next f_X2_nextCopy
  rw [e_isC h]
  by_cases c : f_X2_hasCourse σ x = 0
  · rw [if_pos c, if_pos c]
  · rw [if_neg c, if_neg c, q_nextOf h (rl_6 h (hasCourse_ok (rl_ok h) c).1)]
theorem q_students (h : rl σ (μ 0)) (x : Int32) (w : Nat) (z : Int32) : g_X4_servedOf_15 μ x w z (mC μ + 1) 0 0 = f_X2_studentsFrom σ x (nI w) := by
  unfold f_X2_studentsFrom
  rw [rl_C h]
  have g : ∀ (fu k : Nat) (a : Int32), g_X4_servedOf_15 μ x w z fu k a = g_X2_studentsFrom_5 σ x (nI w) fu k a := by
    intro fu
    induction fu with
    | zero => intro k a; rfl
    | succ fu ih =>
      intro k a
      rw [g_X4_servedOf_15, g_X2_studentsFrom_5, rl_C h]
      by_cases c : nC σ ≤ k
      · rw [if_pos c, if_pos c]
      · have k6 := rl_6 h (Nat.lt_of_not_le c)
        simp only [if_neg c, rl_c0 h k6, rl_c1 h k6, rl_c2 h k6, Int32.add_zero, ih]
  exact g _ _ _
theorem add_r (a b c : Int32) : a + b + c = a + c + b := by rw [Int32.add_assoc, Int32.add_comm b c, ← Int32.add_assoc]
theorem ed_step {e : Int32} {w : Nat} (hw : w < 1000) (he : bnd e 0 30) : (¬ e < nI w) = (¬ e < nI (w + 1) ∨ e = nI w) := by
  have q1 : (nI w).toInt = (w : Int) := nI_toInt (by omega)
  have q2 : (nI (w + 1)).toInt = ((w + 1 : Nat) : Int) := nI_toInt (by omega)
  rw [Int32.lt_iff_toInt_lt, Int32.lt_iff_toInt_lt, ← Int32.toInt_inj, q1, q2]
  exact propext ⟨fun q => by omega, fun q => by omega⟩
theorem q_stockFrom (h : rl σ (μ 0)) (x : Int32) {w : Nat} (hw : w < 1000) : f_X4_stockFrom μ x (nI w) = f_X4_stockFrom μ x (nI (w + 1)) + f_X2_stockOfEdition σ x (nI w) := by
  unfold f_X4_stockFrom f_X2_stockOfEdition
  rw [rl_N h]
  have q1 : (nI w).toInt = (w : Int) := nI_toInt (by omega)
  have q2 : (nI (w + 1)).toInt = ((w + 1 : Nat) : Int) := nI_toInt (by omega)
  have g : ∀ (fu k : Nat) (a b : Int32), g_X4_stockFrom_5 μ x (nI w) fu k (a + b) = g_X4_stockFrom_5 μ x (nI (w + 1)) fu k a + g_X2_stockOfEdition_5 σ x (nI w) fu k b := by
    intro fu
    induction fu with
    | zero => intro k a b; rfl
    | succ fu ih =>
      intro k a b
      rw [g_X4_stockFrom_5, g_X4_stockFrom_5, g_X2_stockOfEdition_5, rl_N h]
      by_cases c : nN σ ≤ k
      · rw [if_pos c, if_pos c, if_pos c]
      · have k6 := rl_60 h (Nat.lt_of_not_le c)
        have i0 := ih (k + 1) a b
        have i1 := ih (k + 1) (a + 1) b
        have i2 := ih (k + 1) a (b + 1)
        rw [add_r] at i1
        rw [← Int32.add_assoc] at i2
        have hb := rl_b11 h k6
        have b1 := hb.1
        have b2 := hb.2
        rw [if_neg c, if_neg c, if_neg c]
        simp only [rl_o0 h k6, rl_o1 h k6, rl_is h k6, ite_not, Int32.add_zero]
        by_cases a1 : σ 10 k = x
        · by_cases a2 : σ 13 k = 0
          · rw [if_pos a1, if_pos a1, if_pos a1, if_pos a2, if_pos a2, if_pos a2]
            by_cases a3 : σ 11 k = nI w
            · have n1 : ¬ σ 11 k < nI w := by rw [a3]; exact Int32.lt_irrefl
              have n2 : σ 11 k < nI (w + 1) := by rw [a3]; exact nI_lt (by omega) (by omega)
              rw [if_neg n1, if_pos n2, if_pos a3]; exact i2
            · rw [if_neg a3]
              by_cases a4 : σ 11 k < nI w
              · have n2 : σ 11 k < nI (w + 1) := by
                  rw [Int32.lt_iff_toInt_lt] at a4 ⊢
                  omega
                rw [if_pos a4, if_pos n2]; exact i0
              · have n2 : ¬ σ 11 k < nI (w + 1) := by
                  intro n3
                  rw [Int32.lt_iff_toInt_lt] at a4 n3
                  exact a3 (Int32.toInt_inj.mp (by omega))
                rw [if_neg a4, if_neg n2]; exact i1
          · rw [if_pos a1, if_pos a1, if_pos a1, if_neg a2, if_neg a2, if_neg a2, ite_self]; exact i0
        · rw [if_neg a1, if_neg a1, if_neg a1]; exact i0
  exact g _ _ 0 0
theorem q_stock31 (h : rl σ (μ 0)) (x : Int32) : f_X4_stockFrom μ x (nI 31) = 0 := by
  unfold f_X4_stockFrom
  rw [rl_N h]
  have g : ∀ (fu k : Nat) (a : Int32), g_X4_stockFrom_5 μ x (nI 31) fu k a = a := by
    intro fu
    induction fu with
    | zero => intro k a; rfl
    | succ fu ih =>
      intro k a
      rw [g_X4_stockFrom_5, rl_N h]
      by_cases c : nN σ ≤ k
      · rw [if_pos c]
      · have k6 := rl_60 h (Nat.lt_of_not_le c)
        have n2 : σ 11 k < nI 31 := by
          have q2 : (nI 31).toInt = 31 := by decide
          rw [Int32.lt_iff_toInt_lt, q2]
          have := (rl_b11 h k6).2
          omega
        simp only [if_neg c, rl_o1 h k6, if_pos n2, Int32.add_zero, ih, ite_self]
  exact g _ _ _
theorem sub_add_c (s g t : Int32) : s - g + t = s + t - g := by rw [Int32.sub_eq_add_neg, Int32.sub_eq_add_neg, add_r]
theorem sub_sub_c (s g m : Int32) : s - g - m = s - (g + m) := by
  rw [Int32.sub_eq_add_neg, Int32.sub_eq_add_neg, Int32.sub_eq_add_neg, Int32.neg_add, Int32.add_assoc]
  first | rfl | rw [Int32.sub_eq_add_neg]
theorem q_servedOf (h : rl σ (μ 0)) (x : Int32) : f_X4_servedOf μ x = f_X2_servedWith σ x := by
  unfold f_X4_servedOf f_X2_servedWith
  have g : ∀ (fu w : Nat) (a : Int32), w ≤ 30 → g_X4_servedOf_5 μ x fu w a = g_X2_servedWith_8 σ x fu w (f_X4_stockFrom μ x (nI (w + 1)) - a) a := by
    intro fu
    induction fu with
    | zero => intro w a hw; rfl
    | succ fu ih =>
      intro w a hw
      rw [g_X4_servedOf_5, g_X2_servedWith_8]
      by_cases c : w = 0
      · rw [if_pos c, if_pos (by omega)]
      · rw [if_neg c, if_neg (by omega), ih _ _ (by omega), q_students h, sub_add_c, ← q_stockFrom h x (by omega)]
        have e : w - 1 + 1 = w := by omega
        unfold f_X4_lesser
        rw [e, sub_sub_c, le_lt]
  have e := g 31 30 0 (by omega)
  rw [q_stock31 h] at e
  exact e
theorem q_served (h : rl σ (μ 0)) : f_X4_served μ = f_X2_servedStudents σ := by
  unfold f_X4_served f_X2_servedStudents
  rw [rl_T h]
  have g : ∀ (fu k : Nat) (a : Int32), g_X4_served_4 μ fu k a = g_X2_servedStudents_4 σ fu k a := by
    intro fu
    induction fu with
    | zero => intro k a; rfl
    | succ fu ih =>
      intro k a
      rw [g_X4_served_4, g_X2_servedStudents_4, rl_T h, q_servedOf h, ih]
  exact g _ _ _
theorem q_digest (h : rl σ (μ 0)) : mD_6 μ = sD_6 σ := by
  have d1 : ∀ (f g : Nat → Int32) (n : Nat), (∀ i, i < n → f i = g i) → ∀ (fu i : Nat) (z : Int64), dg1 f n fu i z = dg1 g n fu i z := by
    intro f g n hfg fu
    induction fu with
    | zero => intro i z; rfl
    | succ fu ih =>
      intro i z
      rw [dg1, dg1]
      by_cases c : n ≤ i
      · rw [if_pos c, if_pos c]
      · rw [if_neg c, if_neg c, hfg i (by omega), ih]
  have d2 : ∀ (f g : Nat → Nat → Int32) (n k : Nat), (∀ i, i < n → ∀ j, j < k → f i j = g i j) → ∀ (fu i : Nat) (z : Int64), dg2 f n k fu i z = dg2 g n k fu i z := by
    intro f g n k hfg fu
    induction fu with
    | zero => intro i z; rfl
    | succ fu ih =>
      intro i z
      rw [dg2, dg2]
      by_cases c : n ≤ i
      · rw [if_pos c, if_pos c]
      · rw [if_neg c, if_neg c, d1 (f i) (g i) k (hfg i (by omega)), ih]
  have e1 : mD_1 μ = sD_1 σ := d1 _ _ _ (fun i hi => q_number h i hi) _ _ _
  have e2 : mD_2 μ = sD_2 σ := by
    unfold mD_2 sD_2
    rw [e1, rl_T h]
    exact d2 _ _ _ _ (fun i hi j hj => q_titleNow h hi hj) _ _ _
  have e3 : mD_3 μ = sD_3 σ := by
    unfold mD_3 sD_3
    rw [e2, rl_C h]
    exact d2 _ _ _ _ (fun i hi j hj => q_courseNow h hi hj) _ _ _
  have e4 : mD_4 μ = sD_4 σ := by
    unfold mD_4 sD_4
    rw [e3, rl_N h]
    exact d2 _ _ _ _ (fun i hi j hj => q_copyNow h hi hj) _ _ _
  have e5 : mD_5 μ = sD_5 σ := by
    unfold mD_5 sD_5
    rw [e4]
    exact d1 _ _ _ (fun i hi => q_sumN h hi) _ _ _
  unfold mD_6 sD_6
  rw [e5]
  exact d2 _ _ _ _ (fun i hi j hj => q_custN h hi hj) _ _ _
end RL4

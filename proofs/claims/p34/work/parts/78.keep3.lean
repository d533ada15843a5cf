/-! ===== renting, giving back, days, shelves ===== -/
section KEEP3
variable {σ τ : ST}
theorem best_in (h : okS σ) {j : Nat} (hb : ¬ f_X2_bestFor σ j = (-1)) : tn (f_X2_bestFor σ j) < nN σ ∧ f_X2_bestFor σ j = nI (tn (f_X2_bestFor σ j)) ∧ okC σ j (tn (f_X2_bestFor σ j)) := by
  rcases best_spec h j with ⟨e, _⟩ | ⟨b, hb2, e, q⟩
  · exact absurd e hb
  · have := (okS_b h).2.2
    have et : tn (f_X2_bestFor σ j) = b := by rw [e, tn_nI (by omega)]
    rw [et]
    exact ⟨hb2, e, q⟩
theorem b_due (h : bq σ) : bnd (σ 0 0 + σ 4 0) 0 100200 := bnd_w (b_add (rl_b0 h) (rl_b40 h)) (by decide) (by decide)
theorem inv_rent (h : INV σ) (x y : Int32) : INV (m_X2_rentCopy σ x y).2 := by
  have hok := iv_ok h
  unfold m_X2_rentCopy
  by_cases c1 : f_X2_hasCustomer x = 0
  · rw [if_pos c1]; exact h
  by_cases c2 : f_X2_hasCourse σ y = 0
  · rw [if_neg c1, if_pos c2]; exact h
  by_cases c3 : f_X2_bestFor σ (tn y) = (-1)
  · rw [if_neg c1, if_neg c2, if_pos c3]; exact h
  by_cases c4 : f_X2_canRent σ x (σ 7 (tn y)) = 0
  · rw [if_neg c1, if_neg c2, if_neg c3, if_pos c4]; exact h
  rw [if_neg c1, if_neg c2, if_neg c3, if_neg c4]
  have hx := hasCustomer_ok c1
  have okm : okS (shU (shU (shU σ 13 (tn (f_X2_bestFor σ (tn y))) 1) 14 (tn (f_X2_bestFor σ (tn y))) x) 15 (tn (f_X2_bestFor σ (tn y))) ((σ 0 0) + (σ 4 0))) := by
    generalize tn (f_X2_bestFor σ (tn y)) = b
    generalize (σ 0 0) + (σ 4 0) = u
    refine okS_lend hok hx b rfl rfl rfl rfl (fun k hk => ?_) (fun k => ?_)
    · exact shU_ne (σ := σ) (f := 13) hk
    · exact shU_at (σ := shU σ 13 b 1) (f := 14) (k := b) (j := k) (x := x)
  have hm := inv_lend h hx (canRent_lt (nN σ + 1) 0 c4) (b_due (iv_q h)) okm
  exact inv_ch hm hx.1 (i := 0) (by decide) (f_X2_rentCost σ (tn (f_X2_bestFor σ (tn y))))
theorem ar12 (a b c d u v : Int32) : ((a + (b + u)) + (c + v)) + d = (((a + b) + c) + d) + (u + v) := by rw [ar2 a (b + u) c d v, ar1 a b c d u, Int32.add_assoc]
theorem ar13 (a b c d u v : Int32) : ((a + (b + u)) + c) + (d + v) = (((a + b) + c) + d) + (u + v) := by rw [ar3 a (b + u) c d v, ar1 a b c d u, Int32.add_assoc]
theorem inv_back1 (h : INV σ) {r k : Nat} (hr : r < 8) {g u v : Int32} (hg : bnd g 0 4) : INV (shU (shU (shU (shU (shU σ 13 k 0) 12 k g) 16 2 ((σ 16 2) + v)) 16 1 ((σ 16 1) + u)) 17 r ((σ 17 r) + (u + v))) := by
  have hok : okS (shU (shU (shU (shU (shU σ 13 k 0) 12 k g) 16 2 ((σ 16 2) + v)) 16 1 ((σ 16 1) + u)) 17 r ((σ 17 r) + (u + v))) := okS_of (iv_ok h) rfl rfl rfl rfl rfl (fun j q => shU_13 (by decide) q)
  refine inv_of h ⟨hok, bdR_w (f := 17) (bdR_w (f := 16) (bdR_w (f := 16) (bdR_w (f := 12) (bdR_w (f := 13) (iv_q h).2 b_00) hg) trivial) trivial) trivial⟩ rfl rfl rfl rfl (fun j q => ⟨shU_13 (σ := σ) (k := k) (v := 0) (by decide) q, rfl⟩) ?_
  have e17 : sI (fun x => (shU (shU (shU (shU (shU σ 13 k 0) 12 k g) 16 2 ((σ 16 2) + v)) 16 1 ((σ 16 1) + u)) 17 r ((σ 17 r) + (u + v))) 17 x) 8 = sI (fun x => σ 17 x) 8 + (u + v) := s17 (σ := σ) hr
  rw [e17, iv_s h]
  exact (ar12 (σ 16 0) (σ 16 1) (σ 16 2) (σ 16 3) u v).symm
theorem inv_back2 (h : INV σ) {r k : Nat} (hr : r < 8) {u v : Int32} : INV (shU (shU (shU (shU σ 13 k 3) 16 3 ((σ 16 3) + v)) 16 1 ((σ 16 1) + u)) 17 r ((σ 17 r) + (u + v))) := by
  have hok : okS (shU (shU (shU (shU σ 13 k 3) 16 3 ((σ 16 3) + v)) 16 1 ((σ 16 1) + u)) 17 r ((σ 17 r) + (u + v))) := okS_of (iv_ok h) rfl rfl rfl rfl rfl (fun j q => shU_13 (by decide) q)
  refine inv_of h ⟨hok, bdR_w (f := 17) (bdR_w (f := 16) (bdR_w (f := 16) (bdR_w (f := 13) (iv_q h).2 b_3) trivial) trivial) trivial⟩ rfl rfl rfl rfl (fun j q => ⟨shU_13 (σ := σ) (k := k) (v := 3) (by decide) q, rfl⟩) ?_
  have e17 : sI (fun x => (shU (shU (shU (shU σ 13 k 3) 16 3 ((σ 16 3) + v)) 16 1 ((σ 16 1) + u)) 17 r ((σ 17 r) + (u + v))) 17 x) 8 = sI (fun x => σ 17 x) 8 + (u + v) := s17 (σ := σ) hr
  rw [e17, iv_s h]
  exact (ar13 (σ 16 0) (σ 16 1) (σ 16 2) (σ 16 3) u v).symm
theorem b_gsum (h : bq σ) {k : Nat} {y : Int32} (hy : bnd y 0 4) (c : σ 12 k + y ≤ 4) : bnd (σ 12 k + y) 0 4 := by
  have b := b_add (rl_b12 h k) hy
  have l4 : (4 : Int32).toInt = 4 := by decide
  rw [Int32.le_iff_toInt_le, l4] at c
  exact ⟨by have := b.1; omega, c⟩
theorem ruin_iff {k : Nat} {y : Int32} : f_X2_isRuinedBy σ k y = 0 ↔ σ 12 k + y ≤ 4 := by
  unfold f_X2_isRuinedBy
  by_cases c : σ 12 k + y ≤ 4
  · rw [if_pos c]; exact ⟨fun _ => c, fun _ => rfl⟩
  · rw [if_neg c]; exact ⟨fun q => absurd q (by decide), fun q => absurd q c⟩
theorem inv_giveBack (h : INV σ) (x y : Int32) : INV (m_X2_takeBack σ x y).2 := by
  unfold m_X2_takeBack
  by_cases c1 : f_X2_hasCopy σ x = 0
  · rw [if_pos c1]; exact h
  by_cases c2 : f_X2_isGrade y = 0
  · rw [if_neg c1, if_pos c2]; exact h
  by_cases c3 : σ 13 (tn x) = 1
  · have hr := (okS_r (iv_ok h) (hasCopy_ok (iv_ok h) c1).1 c3).2
    by_cases c4 : f_X2_isRuinedBy σ (tn x) y = 0
    · rw [if_neg c1, if_neg c2, if_pos c3, if_pos c4]
      exact inv_back1 h hr (b_gsum (iv_q h) (b_gr c2) (ruin_iff.mp c4))
    · rw [if_neg c1, if_neg c2, if_pos c3, if_neg c4]
      exact inv_back2 h hr
  · rw [if_neg c1, if_neg c2, if_neg c3]; exact h
theorem inv_day (h : INV σ) {v : Int32} (hv : bnd v 0 100000) : INV (shS σ 0 v) := by
  have hok : okS (shS σ 0 v) := okS_of (iv_ok h) rfl rfl rfl rfl rfl (fun j q => q)
  exact inv_of h ⟨hok, bdR_s (f := 0) (iv_q h).2 (fun _ => hv)⟩ rfl rfl rfl rfl (fun j q => ⟨q, rfl⟩) (iv_s (σ := σ) h)
theorem inv_passes {x : Int32} {σ0 : ST} : ∀ (fu k : Nat) (a : Int32) (ω : ST), INV ω → INV (g_X2_passDays_42 σ0 x fu k a ω).2 ∧ (g_X2_passDays_42 σ0 x fu k a ω).2 0 = ω 0 ∧ (g_X2_passDays_42 σ0 x fu k a ω).2 1 = ω 1 := by
  intro fu
  induction fu with
  | zero => intro k a ω h; exact ⟨h, rfl, rfl⟩
  | succ fu ih =>
    intro k a ω h
    rw [g_X2_passDays_42]
    by_cases c : nN ω ≤ k
    · rw [if_pos c]; exact ⟨h, rfl, rfl⟩
    · rw [if_neg c]
      by_cases d : f_X2_isLostOn ω k (ω 0 0) = 0
      · rw [if_pos d]; exact ih _ _ _ h
      · rw [if_neg d]
        have hr := (okS_r (iv_ok h) (Nat.lt_of_not_le c) (lostOn_1 d)).2
        have k1 := inv_ch (inv_13 h k (v := 3) (by decide) b_3) hr (i := 3) (by decide) (f_X2_worthOf ω k)
        exact ih (k + 1) (a + 1) _ k1
theorem pass_ok {x : Int32} (h : bq σ) (c1 : ¬ f_X2_isBetween x 1 400 = 0) (c2 : σ 0 0 + x ≤ 100000) : bnd (σ 0 0 + x) 0 100000 :=
  b_dayx (rl_b0 h) (bnd_w (bnd_btw c1) (by decide) (by decide)) c2
theorem inv_pass (h : INV σ) (x : Int32) : INV (m_X2_passDays σ x).2 := by
  unfold m_X2_passDays
  by_cases c1 : f_X2_isBetween x 1 400 = 0
  · rw [if_pos c1]; exact h
  by_cases c2 : σ 0 0 + x ≤ 100000
  · rw [if_neg c1, if_pos c2]
    exact (inv_passes (nN σ + 1) 0 0 _ (inv_day h (pass_ok (iv_q h) c1 c2))).1
  · rw [if_neg c1, if_neg c2]; exact h
theorem inv_loses {x y : Int32} {σ0 : ST} : ∀ (fu k : Nat) (z : Int32) (ω : ST), INV ω → INV (g_X2_loseSight_10 σ0 x y fu k z ω) := by
  intro fu
  induction fu with
  | zero => intro k z ω h; exact h
  | succ fu ih =>
    intro k z ω h
    rw [g_X2_loseSight_10]
    refine ite_ind INV (fun _ => h) (fun _ => ite_ind INV (fun _ => h) (fun _ => ite_ind INV (fun _ => ite_ind INV (fun _ => ?_) (fun _ => ih _ _ _ h)) (fun _ => ih _ _ _ h)))
    exact ih _ _ _ (inv_13 h (k - 1) (v := 4) (by decide) b_4)
theorem inv_finds {x y : Int32} {σ0 : ST} : ∀ (fu k : Nat) (z : Int32) (ω : ST), INV ω → INV (g_X2_findAgain_5 σ0 x y fu k z ω) := by
  intro fu
  induction fu with
  | zero => intro k z ω h; exact h
  | succ fu ih =>
    intro k z ω h
    rw [g_X2_findAgain_5]
    refine ite_ind INV (fun _ => h) (fun _ => ite_ind INV (fun _ => h) (fun _ => ite_ind INV (fun _ => ite_ind INV (fun _ => ?_) (fun _ => ih _ _ _ h)) (fun _ => ih _ _ _ h)))
    exact ih _ _ _ (inv_13 h k (v := 0) (by decide) b_00)
theorem inv_shelf (h : INV σ) (x y : Int32) : INV (m_X2_countShelf σ x y).2 := by
  unfold m_X2_countShelf
  by_cases c1 : f_X2_hasTitle σ x = 0
  · rw [if_pos c1]; exact h
  by_cases c2 : f_X2_isBetween y 0 60 = 0
  · rw [if_neg c1, if_pos c2]; exact h
  by_cases c3 : y ≤ f_X2_copiesOfIn σ x 0 + f_X2_copiesOfIn σ x 4
  · rw [if_neg c1, if_neg c2, if_pos c3]
    exact inv_finds _ _ _ _ (inv_loses _ _ _ _ h)
  · rw [if_neg c1, if_neg c2, if_neg c3]; exact h
theorem inv_changes (h : INV σ) (z : Int32) : INV (m_L_changes σ z).2 := by
  unfold m_L_changes
  exact ite_ind (fun z : MS => INV z.2) (fun _ => inv_addTitle h _ _) (fun _ => ite_ind (fun z : MS => INV z.2) (fun _ => inv_addCourse h _ _ _) (fun _ => ite_ind (fun z : MS => INV z.2) (fun _ => inv_setCourse h _ _ _) (fun _ => ite_ind (fun z : MS => INV z.2) (fun _ => ite_ind (fun z : MS => INV z.2) (fun _ => inv_newEdition h _) (fun _ => inv_setPrice h _ _)) (fun _ => ite_ind (fun z : MS => INV z.2) (fun _ => inv_set h _ _) (fun _ => ite_ind (fun z : MS => INV z.2) (fun _ => inv_buy h _ _) (fun _ => ite_ind (fun z : MS => INV z.2) (fun _ => inv_buy h _ _) (fun _ => ite_ind (fun z : MS => INV z.2) (fun _ => inv_buyBack h _ _ _) (fun _ => ite_ind (fun z : MS => INV z.2) (fun _ => inv_sell h _) (fun _ => ite_ind (fun z : MS => INV z.2) (fun _ => inv_rent h _ _) (fun _ => ite_ind (fun z : MS => INV z.2) (fun _ => inv_rent h _ _) (fun _ => ite_ind (fun z : MS => INV z.2) (fun _ => inv_rent h _ _) (fun _ => ite_ind (fun z : MS => INV z.2) (fun _ => inv_rent h _ _) (fun _ => ite_ind (fun z : MS => INV z.2) (fun _ => inv_giveBack h _ _) (fun _ => ite_ind (fun z : MS => INV z.2) (fun _ => inv_pass h _) (fun _ => ite_ind (fun z : MS => INV z.2) (fun _ => inv_pass h _) (fun _ => inv_shelf h _ _))))))))))))))))
end KEEP3

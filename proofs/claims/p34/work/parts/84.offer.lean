/-! ===== offers come true ===== -/
section OFFER
variable {σ : ST}
def ofA (σ : ST) (t : Nat) (e g : Int32) : Int32 := (f_X2_worthBy σ t (σ 6 t) e g * 40) / 100
theorem offer_v (h : okS σ) {t : Nat} (ht : t < nT σ) {e g : Int32} (he : ¬ f_X2_isEdition e = 0) (hg : ¬ f_X2_isGrade g = 0) : f_X2_offerFor σ (nI t) e g = if f_X2_isOfUse σ (nI t) e = 0 then 0 else if f_X2_supplyOf σ (nI t) < f_X2_demandOf σ (nI t) then ofA σ t e g else ofA σ t e g / 2 := by
  unfold f_X2_offerFor ofA
  rw [if_neg (htt h ht), if_neg he, if_neg hg, tnT h ht]
theorem ofA_b (h : bq σ) {t : Nat} (ht : t < nT σ) {e g : Int32} (he : ¬ f_X2_isEdition e = 0) (hg : ¬ f_X2_isGrade g = 0) : bnd (ofA σ t e g) 0 20000 ∧ (ofA σ t e g).toInt = (f_X2_worthBy σ t (σ 6 t) e g).toInt * 40 / 100 ∧ bnd (ofA σ t e g / 2) 0 20000 ∧ (ofA σ t e g / 2).toInt = (ofA σ t e g).toInt / 2 := by
  have b := (e_wq h (t := t) (c := σ 6 t) (y := e) (z := g) (bnd_w (rl_b6 h (rl_6t h ht)) (by decide) (by decide)) (ed_b he) (b_gr hg)).2
  have l40 : (40 : Int32).toInt = 40 := by decide
  have m := b_mul b (⟨by decide, by decide⟩ : bnd 40 0 40) (by decide)
  have d := b_div (d := 100) 100 m.2 (by decide) (by decide) (by decide)
  have d1 : bnd (ofA σ t e g) 0 20000 := bnd_w d.2 (by decide) (by decide)
  have d2 := b_div (d := 2) 2 d1 (by decide) (by decide) (by decide)
  refine ⟨d1, ?_, bnd_w d2.2 (by decide) (by decide), d2.1⟩
  show ((f_X2_worthBy σ t (σ 6 t) e g * 40) / 100).toInt = _
  rw [d.1, m.1, l40]
  rfl
theorem g_1 : ¬ f_X2_isGrade 1 = 0 := by decide
theorem g_4 : ¬ f_X2_isGrade 4 = 0 := by decide
theorem offer_nn (h : bq σ) {t : Nat} (ht : t < nT σ) {e g : Int32} (he : ¬ f_X2_isEdition e = 0) (hg : ¬ f_X2_isGrade g = 0) : 0 ≤ f_X2_offerFor σ (nI t) e g := b_nn (b_offer h (htt h.1 ht) he hg) (by decide)
theorem offer_0 (h : bq σ) {t : Nat} (ht : t < nT σ) {e : Int32} (he : ¬ f_X2_isEdition e = 0) (q : f_X2_offerFor σ (nI t) e 1 = 0) : m_X2_buyUsed σ (nI t) e 1 = (-4, σ) := by
  unfold m_X2_buyUsed
  rw [if_pos (offer_nn h ht he g_1), if_pos q]
theorem offer_60 (h : bq σ) {t : Nat} (ht : t < nT σ) {e : Int32} (he : ¬ f_X2_isEdition e = 0) (q : ¬ f_X2_offerFor σ (nI t) e 1 = 0) (q2 : f_X2_numberOf σ 1 = 60) : m_X2_buyUsed σ (nI t) e 1 = (-5, σ) := by
  have b := (okS_b h.1).2.2
  have n60 : nN σ = 60 := by
    rw [num_1 h.1] at q2
    exact (nI_eq (b := 60) (by omega) (by decide)).mp q2
  unfold m_X2_buyUsed
  rw [if_pos (offer_nn h ht he g_1), if_neg q, if_neg (by omega)]
theorem use_congr {τ : ST} (e2 : τ 2 = σ 2) (e7 : τ 7 = σ 7) (e8 : τ 8 = σ 8) (x y : Int32) : f_X2_isOfUse τ x y = f_X2_isOfUse σ x y := by
  have en : nC τ = nC σ := by unfold nC; rw [e2]
  have g : ∀ fu k, g_X2_isOfUse_2 τ x y fu k = g_X2_isOfUse_2 σ x y fu k := by
    intro fu
    induction fu with
    | zero => intro k; rfl
    | succ fu ih =>
      intro k
      have et : f_X2_takes τ k x y = f_X2_takes σ k x y := by unfold f_X2_takes; rw [e7, e8]
      rw [g_X2_isOfUse_2, g_X2_isOfUse_2, en, et, ih]
  unfold f_X2_isOfUse
  rw [en, g]
theorem worth_congr {τ : ST} (e4 : τ 4 = σ 4) (e5 : τ 5 = σ 5) (t : Nat) (c y z : Int32) : f_X2_worthBy τ t c y z = f_X2_worthBy σ t c y z := by
  unfold f_X2_worthBy
  rw [e4, e5]
theorem offer_in2 (h : INV σ) {t : Nat} (ht : t < nT σ) {e : Int32} (he : ¬ f_X2_isEdition e = 0) (q : ¬ f_X2_offerFor σ (nI t) e 1 = 0) (q2 : ¬ f_X2_numberOf σ 1 = 60) : (m_X2_buyUsed σ (nI t) e 1).1 = f_X2_numberOf σ 1 ∧
    ¬ (f_X2_copyProperty (m_X2_buyUsed σ (nI t) e 1).2 (f_X2_numberOf σ 1) 6 * 40) / 100 < f_X2_offerFor σ (nI t) e 1 ∧ f_X2_copyProperty (m_X2_buyUsed σ (nI t) e 1).2 (f_X2_numberOf σ 1) 9 = 1 ∧ ¬ (m_X2_buyUsed σ (nI t) e 1).1 < 0 := by
  have hq := iv_q h
  have b := okS_b hq.1
  have n60 : nN σ < 60 := by
    rw [num_1 hq.1] at q2
    exact Nat.lt_of_not_le (fun z => q2 (by rw [show nN σ = 60 by omega]; rfl))
  have ok2 := ok_buyBack hq.1 (nI t) e 1
  have ev : m_X2_buyUsed σ (nI t) e 1 = (((s_X2_putCopy σ (nI t) e 1) 3 0) - 1, (shU (s_X2_putCopy σ (nI t) e 1) 16 6 (((s_X2_putCopy σ (nI t) e 1) 16 6) + (f_X2_offerFor σ (nI t) e 1)))) := by
    unfold m_X2_buyUsed
    rw [if_pos (offer_nn hq ht he g_1), if_neg q, if_pos n60]
  have en := (putCopy_ok hq.1 (x := nI t) ⟨by rw [tnT hq.1 ht]; omega, by rw [tnT hq.1 ht]⟩ n60 e 1).2
  rw [ev] at ok2 ⊢
  have e30 : (s_X2_putCopy σ (nI t) e 1) 3 0 = σ 3 0 + 1 := rfl
  have e1 : ((s_X2_putCopy σ (nI t) e 1) 3 0) - 1 = f_X2_numberOf σ 1 := by rw [e30, pred_1]; rfl
  have u := offer_v hq.1 ht he g_1
  have use : ¬ f_X2_isOfUse σ (nI t) e = 0 := fun z => q (by rw [u, if_pos z])
  rw [if_neg use] at u
  obtain ⟨o1, o2, o3, o4⟩ := ofA_b hq ht he g_1
  generalize ((s_X2_putCopy σ (nI t) e 1) 16 6) + (f_X2_offerFor σ (nI t) e 1) = w at ok2 ⊢
  have ok2 : okS (shU (s_X2_putCopy σ (nI t) e 1) 16 6 w) := ok2
  have hk : nN σ < nN (shU (s_X2_putCopy σ (nI t) e 1) 16 6 w) := by
    have : nN (shU (s_X2_putCopy σ (nI t) e 1) 16 6 w) = nN σ + 1 := en
    omega
  have f10 : (shU (s_X2_putCopy σ (nI t) e 1) 16 6 w) 10 (nN σ) = nI t := by
    show (shU σ 10 (nN σ) (nI t)) 10 (nN σ) = nI t
    exact shU_eq
  have f11 : (shU (s_X2_putCopy σ (nI t) e 1) 16 6 w) 11 (nN σ) = e := by
    show (shU (shU σ 10 (nN σ) (nI t)) 11 (nN σ) e) 11 (nN σ) = e
    exact shU_eq
  have f12 : (shU (s_X2_putCopy σ (nI t) e 1) 16 6 w) 12 (nN σ) = 1 := by
    show (shU (shU (shU σ 10 (nN σ) (nI t)) 11 (nN σ) e) 12 (nN σ) 1) 12 (nN σ) = 1
    exact shU_eq
  have ft : tOf (shU (s_X2_putCopy σ (nI t) e 1) 16 6 w) (nN σ) = t := by unfold tOf; rw [f10, tnT hq.1 ht]
  have ew : f_X2_worthOf (shU (s_X2_putCopy σ (nI t) e 1) 16 6 w) (nN σ) = f_X2_worthBy σ t (σ 6 t) e 1 := by
    unfold f_X2_worthOf
    rw [ft, f11, f12]
    exact worth_congr rfl rfl t _ e 1
  refine ⟨e1, ?_, ?_, ?_⟩
  · show ¬ (f_X2_copyProperty (shU (s_X2_putCopy σ (nI t) e 1) 16 6 w) (f_X2_numberOf σ 1) 6 * 40) / 100 < f_X2_offerFor σ (nI t) e 1
    rw [num_1 hq.1, cp6 ok2 hk, ew, u]
    show ¬ ofA σ t e 1 < _
    by_cases c : f_X2_supplyOf σ (nI t) < f_X2_demandOf σ (nI t)
    · rw [if_pos c, Int32.lt_iff_toInt_lt]; omega
    · rw [if_neg c, Int32.lt_iff_toInt_lt, o4]
      have := o1.1
      omega
  · show f_X2_copyProperty (shU (s_X2_putCopy σ (nI t) e 1) 16 6 w) (f_X2_numberOf σ 1) 9 = 1
    rw [num_1 hq.1, cp9 ok2 hk, f10, f11, use_congr (σ := σ) (τ := shU (s_X2_putCopy σ (nI t) e 1) 16 6 w) rfl rfl rfl, if_neg use]
  · show ¬ ((s_X2_putCopy σ (nI t) e 1) 3 0) - 1 < 0
    rw [e1, num_1 hq.1]
    exact nI_pos (by omega)
theorem offer_mono (h : bq σ) {t : Nat} (ht : t < nT σ) {e : Int32} (he : ¬ f_X2_isEdition e = 0) : ¬ f_X2_offerFor σ (nI t) e 1 < f_X2_offerFor σ (nI t) e 4 := by
  rw [offer_v h.1 ht he g_1, offer_v h.1 ht he g_4]
  by_cases c : f_X2_isOfUse σ (nI t) e = 0
  · rw [if_pos c, if_pos c]; decide
  rw [if_neg c, if_neg c]
  obtain ⟨o1, o2, o3, o4⟩ := ofA_b h ht he g_1
  obtain ⟨p1, p2, p3, p4⟩ := ofA_b h ht he g_4
  have hc := bnd_w (b' := 31) (rl_b6 h (rl_6t h ht)) (Int.le_refl _) (by decide)
  have m := worth_mono h (t := t) (c := σ 6 t) (c' := σ 6 t) (y := e) (y' := e) (z := 4) (z' := 1) hc hc (ed_b he) (ed_b he) (b_gr g_4) (b_gr g_1) (Int.le_refl _) (Int.le_refl _) (by decide)
  have q : (ofA σ t e 4).toInt ≤ (ofA σ t e 1).toInt := by rw [o2, p2]; omega
  by_cases d : f_X2_supplyOf σ (nI t) < f_X2_demandOf σ (nI t)
  · rw [if_pos d, if_pos d, Int32.lt_iff_toInt_lt]; omega
  · rw [if_neg d, if_neg d, Int32.lt_iff_toInt_lt, o4, p4]; omega
end OFFER

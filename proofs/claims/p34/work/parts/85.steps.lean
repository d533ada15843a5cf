/-! ===== the two loops of the law keep what they need ===== -/
def I1 (t : Nat) (σ : ST) : Prop := INV σ ∧ nT σ = t ∧ nC σ = t ∧ nN σ ≤ 6 * t ∧ σ 0 0 = 0
def I2 (t : Nat) (σ : ST) : Prop := INV σ ∧ 1 ≤ nT σ ∧ (σ 0 0).toInt ≤ 40 * t ∧ t ≤ 26
section STEPS
variable {σ : ST}
def kD (σ : ST) (w : MS) : Prop := nT σ ≤ nT w.2 ∧ (w.2 0 0).toInt ≤ (σ 0 0).toInt + 40
theorem kD_i {w1 w2 : MS} {p : Prop} [Decidable p] (h1 : p → kD σ w1) (h2 : ¬ p → kD σ w2) : kD σ (if p then w1 else w2) := by
  by_cases c : p
  · rw [if_pos c]; exact h1 c
  · rw [if_neg c]; exact h2 c
theorem kD_s {v : Int32} : kD σ (v, σ) := ⟨Nat.le_refl _, by show (σ 0 0).toInt ≤ _; omega⟩
theorem kD_o {v : Int32} {τ : ST} (e0 : τ 0 = σ 0) (e1 : τ 1 = σ 1) : kD σ (v, τ) := ⟨by show nT σ ≤ nT τ; unfold nT; rw [e1]; exact Nat.le_refl _, by show (τ 0 0).toInt ≤ _; rw [e0]; omega⟩
theorem d_addTitle (h : okS σ) (x y : Int32) : kD σ (m_X2_putTitle σ x y) := by
  unfold m_X2_putTitle
  refine kD_i (fun _ => kD_s) (fun _ => kD_i (fun _ => kD_s) (fun _ => kD_i (fun c => ⟨?_, ?_⟩) (fun _ => kD_s)))
  · show nT σ ≤ tn (σ 1 0 + 1)
    rw [okS_1 h, nI_1, tn_nI (by omega)]
    omega
  · show (σ 0 0).toInt ≤ _
    omega
theorem d_setPrice (x y : Int32) : kD σ (m_X2_changePrice σ x y) := by
  unfold m_X2_changePrice
  exact kD_i (fun _ => kD_s) (fun _ => kD_i (fun _ => kD_s) (fun _ => kD_o rfl rfl))
theorem d_newEdition (x : Int32) : kD σ (m_X2_advanceEdition σ x) := by
  unfold m_X2_advanceEdition
  exact kD_i (fun _ => kD_s) (fun _ => kD_i (fun _ => kD_o rfl rfl) (fun _ => kD_s))
theorem d_addCourse (x y z : Int32) : kD σ (m_X2_putCourse σ x y z) := by
  unfold m_X2_putCourse
  exact kD_i (fun _ => kD_s) (fun _ => kD_i (fun _ => kD_s) (fun _ => kD_i (fun _ => kD_s) (fun _ => kD_i (fun _ => kD_o rfl rfl) (fun _ => kD_s))))
theorem d_setCourse (x y z : Int32) : kD σ (m_X2_changeCourse σ x y z) := by
  unfold m_X2_changeCourse
  exact kD_i (fun _ => kD_s) (fun _ => kD_i (fun _ => kD_s) (fun _ => kD_i (fun _ => kD_s) (fun _ => kD_o rfl rfl)))
theorem d_set (x y : Int32) : kD σ (m_X2_changeSetting σ x y) := by
  unfold m_X2_changeSetting
  exact kD_i (fun _ => kD_s) (fun _ => kD_i (fun _ => kD_s) (fun _ => kD_o rfl rfl))
theorem d_buy (h : INV σ) (x y : Int32) : kD σ (m_X2_buyNew σ x y) := by
  unfold m_X2_buyNew
  refine kD_i (fun _ => kD_s) (fun c1 => kD_i (fun _ => kD_s) (fun c2 => kD_i (fun c3 => ?_) (fun _ => kD_s)))
  obtain ⟨_, r0, r1, _⟩ := inv_buys (x := x) (y := y) (σ0 := σ) (tn y + 1) 0 σ h (hasTitle_ok (iv_ok h) c1) (buy_cap (iv_ok h) c2 c3) (by omega)
  generalize g_X2_buyNew_46 σ x y (tn y + 1) 0 σ = τ at r0 r1
  exact kD_o (τ := shU τ 16 5 (τ 16 5 + y * τ 5 (tn x))) r0 r1
theorem d_buyBack (x y z : Int32) : kD σ (m_X2_buyUsed σ x y z) := by
  unfold m_X2_buyUsed
  exact kD_i (fun _ => kD_i (fun _ => kD_s) (fun _ => kD_i (fun _ => kD_o rfl rfl) (fun _ => kD_s))) (fun _ => kD_s)
theorem d_sell (x : Int32) : kD σ (m_X2_sellCopy σ x) := by
  unfold m_X2_sellCopy
  exact kD_i (fun _ => kD_s) (fun _ => kD_i (fun _ => kD_o rfl rfl) (fun _ => kD_s))
theorem d_rent (x y : Int32) : kD σ (m_X2_rentCopy σ x y) := by
  unfold m_X2_rentCopy
  exact kD_i (fun _ => kD_s) (fun _ => kD_i (fun _ => kD_s) (fun _ => kD_i (fun _ => kD_s) (fun _ => kD_i (fun _ => kD_s) (fun _ => kD_o rfl rfl))))
theorem d_giveBack (x y : Int32) : kD σ (m_X2_takeBack σ x y) := by
  unfold m_X2_takeBack
  exact kD_i (fun _ => kD_s) (fun _ => kD_i (fun _ => kD_s) (fun _ => kD_i (fun _ => kD_i (fun _ => kD_o rfl rfl) (fun _ => kD_o rfl rfl)) (fun _ => kD_s)))
theorem d_pass (h : INV σ) {x : Int32} (hx : bnd x 1 40) : kD σ (m_X2_passDays σ x) := by
  unfold m_X2_passDays
  refine kD_i (fun _ => kD_s) (fun c1 => kD_i (fun c2 => ?_) (fun _ => kD_s))
  obtain ⟨_, r0, r1⟩ := inv_passes (x := x) (σ0 := σ) (nN σ + 1) 0 0 _ (inv_day h (pass_ok (iv_q h) c1 c2))
  refine ⟨?_, ?_⟩
  · show nT σ ≤ nT (g_X2_passDays_42 σ x (nN σ + 1) 0 0 (shS σ 0 ((σ 0 0) + x))).2
    unfold nT
    rw [r1]
    exact Nat.le_refl _
  · show ((g_X2_passDays_42 σ x (nN σ + 1) 0 0 (shS σ 0 ((σ 0 0) + x))).2 0 0).toInt ≤ _
    rw [r0]
    show (σ 0 0 + x).toInt ≤ _
    have b0 := rl_b0 (iv_q h)
    have b1 := b0.1
    have b2 := b0.2
    have x1 := hx.1
    have x2 := hx.2
    rw [i_add (by omega) (by omega) (by omega) (by omega)]
    omega
theorem d_shelf (x y : Int32) : kD σ (m_X2_countShelf σ x y) := by
  unfold m_X2_countShelf
  refine kD_i (fun _ => kD_s) (fun _ => kD_i (fun _ => kD_s) (fun _ => kD_i (fun _ => ?_) (fun _ => kD_s)))
  unfold s_X2_findAgain s_X2_loseSight
  exact kD_o ((findAgain_g 0 (by decide) _ _ _ _).trans (loseSight_g 0 (by decide) _ _ _ _)) ((findAgain_g 1 (by decide) _ _ _ _).trans (loseSight_g 1 (by decide) _ _ _ _))
theorem b_40 (z : Int32) : bnd (1 + f_L_low z 40) 1 40 := bnd_w (low_b z (n := 40) (by decide) (by decide) 1 (by decide)) (by decide) (by decide)
theorem d_changes (h : INV σ) (z : Int32) : kD σ (m_L_changes σ z) := by
  unfold m_L_changes
  exact kD_i (fun _ => d_addTitle (iv_ok h) _ _) (fun _ => kD_i (fun _ => d_addCourse _ _ _) (fun _ => kD_i (fun _ => d_setCourse _ _ _) (fun _ => kD_i (fun _ => kD_i (fun _ => d_newEdition _) (fun _ => d_setPrice _ _)) (fun _ => kD_i (fun _ => d_set _ _) (fun _ => kD_i (fun _ => d_buy h _ _) (fun _ => kD_i (fun _ => d_buy h _ _) (fun _ => kD_i (fun _ => d_buyBack _ _ _) (fun _ => kD_i (fun _ => d_sell _) (fun _ => kD_i (fun _ => d_rent _ _) (fun _ => kD_i (fun _ => d_rent _ _) (fun _ => kD_i (fun _ => d_rent _ _) (fun _ => kD_i (fun _ => d_rent _ _) (fun _ => kD_i (fun _ => d_giveBack _ _) (fun _ => kD_i (fun _ => d_pass h (b_40 _)) (fun _ => kD_i (fun _ => d_pass h (b_40 _)) (fun _ => d_shelf _ _))))))))))))))))
theorem i2_ch {t : Nat} (h : I2 t σ) (ht : ¬ 26 ≤ t) (z : Int32) : I2 (t + 1) (m_L_changes σ z).2 := by
  obtain ⟨h1, h2, h3, h4⟩ := h
  obtain ⟨d1, d2⟩ := d_changes h1 z
  exact ⟨inv_changes h1 z, Nat.le_trans h2 d1, by omega, by omega⟩
theorem i2_id {t : Nat} (h : I2 t σ) (ht : ¬ 26 ≤ t) : I2 (t + 1) σ := by
  obtain ⟨h1, h2, h3, h4⟩ := h
  exact ⟨h1, h2, by omega, by omega⟩
theorem i2_0 {t nt : Nat} (h : I1 t σ) (h1 : 1 ≤ nt) (h2 : nt ≤ t) : I2 0 σ := by
  obtain ⟨q1, q2, q3, q4, q5⟩ := h
  exact ⟨q1, by omega, by rw [q5]; decide, by omega⟩
theorem i2_days {t : Nat} (h : I2 t σ) (z : Int32) : ¬ f_X2_isBetween (1 + f_L_low z 200) 1 400 = 0 ∧ σ 0 0 + (1 + f_L_low z 200) ≤ 100000 := by
  obtain ⟨h1, h2, h3, h4⟩ := h
  have b : bnd (1 + f_L_low z 200) 1 200 := bnd_w (low_b z (n := 200) (by decide) (by decide) 1 (by decide)) (by decide) (by decide)
  have l1 : (1 : Int32).toInt = 1 := by decide
  have l400 : (400 : Int32).toInt = 400 := by decide
  have l5 : (100000 : Int32).toInt = 100000 := by decide
  have b0 := (rl_b0 (iv_q h1)).1
  have b1 := b.1
  have b2 := b.2
  refine ⟨btw_of (by omega) (by omega), ?_⟩
  rw [Int32.le_iff_toInt_le, i_add (by omega) (by omega) (by omega) (by omega), l5]
  omega
theorem b_12 (z : Int32) : ¬ f_X2_isEdition (1 + f_L_low z 12) = 0 := by
  have b : bnd (1 + f_L_low z 12) 1 12 := bnd_w (low_b z (n := 12) (by decide) (by decide) 1 (by decide)) (by decide) (by decide)
  have l1 : (1 : Int32).toInt = 1 := by decide
  have l30 : (30 : Int32).toInt = 30 := by decide
  have b1 := b.1
  have b2 := b.2
  exact btw_of (by omega) (by omega)
/-! a title, its course, its first copies -/
theorem t_1 (h : INV σ) {p e : Int32} (hp : ¬ f_X2_isPrice p = 0) (he : ¬ f_X2_isEdition e = 0) (hn : nT σ < 6) : (m_X2_putTitle σ p e).1 = nI (nT σ) ∧ INV (m_X2_putTitle σ p e).2 ∧ nT (m_X2_putTitle σ p e).2 = nT σ + 1 ∧ nC (m_X2_putTitle σ p e).2 = nC σ ∧ nN (m_X2_putTitle σ p e).2 = nN σ ∧ (m_X2_putTitle σ p e).2 0 0 = σ 0 0 := by
  have hi := inv_addTitle h p e
  have ev : m_X2_putTitle σ p e = (σ 1 0 + 1 - 1, shS (shU (shU σ 5 (nT σ) p) 6 (nT σ) e) 1 (σ 1 0 + 1)) := by
    unfold m_X2_putTitle
    rw [if_neg hp, if_neg he, if_pos hn]
  rw [ev] at hi ⊢
  refine ⟨?_, hi, ?_, rfl, rfl, rfl⟩
  · show σ 1 0 + 1 - 1 = _
    rw [pred_1]; exact okS_1 (iv_ok h)
  · show tn (σ 1 0 + 1) = nT σ + 1
    rw [okS_1 (iv_ok h), nI_1, tn_nI (by omega)]
theorem t_2 (h : INV σ) {t : Nat} (ht : t < nT σ) {c d : Int32} (hc : ¬ f_X2_isEdition c = 0) (hd : ¬ f_X2_isBetween d 0 200 = 0) (hn : nC σ < 6) : (m_X2_putCourse σ (nI t) c d).1 = nI (nC σ) ∧ INV (m_X2_putCourse σ (nI t) c d).2 ∧ nT (m_X2_putCourse σ (nI t) c d).2 = nT σ ∧ nC (m_X2_putCourse σ (nI t) c d).2 = nC σ + 1 ∧ nN (m_X2_putCourse σ (nI t) c d).2 = nN σ ∧ (m_X2_putCourse σ (nI t) c d).2 0 0 = σ 0 0 := by
  have hi := inv_addCourse h (nI t) c d
  have ev : m_X2_putCourse σ (nI t) c d = (σ 2 0 + 1 - 1, shS (shU (shU (shU σ 7 (nC σ) (nI t)) 8 (nC σ) c) 9 (nC σ) d) 2 (σ 2 0 + 1)) := by
    unfold m_X2_putCourse
    rw [if_neg (htt (iv_ok h) ht), if_neg hc, if_neg hd, if_pos hn]
  rw [ev] at hi ⊢
  refine ⟨?_, hi, rfl, ?_, rfl, rfl⟩
  · show σ 2 0 + 1 - 1 = _
    rw [pred_1]; exact okS_2 (iv_ok h)
  · show tn (σ 2 0 + 1) = nC σ + 1
    rw [okS_2 (iv_ok h), nI_1, tn_nI (by omega)]
theorem t_3 (h : INV σ) {t : Nat} (ht : t < nT σ) {n : Int32} (hb : bnd n 1 6) (hn : nN σ ≤ 12) : 0 ≤ (m_X2_buyNew σ (nI t) n).1 ∧ INV (m_X2_buyNew σ (nI t) n).2 ∧ nT (m_X2_buyNew σ (nI t) n).2 = nT σ ∧ nC (m_X2_buyNew σ (nI t) n).2 = nC σ ∧ nN (m_X2_buyNew σ (nI t) n).2 ≤ nN σ + 6 ∧ (m_X2_buyNew σ (nI t) n).2 0 0 = σ 0 0 := by
  have hi := inv_buy h (nI t) n
  have hok := iv_ok h
  have l1 : (1 : Int32).toInt = 1 := by decide
  have l20 : (20 : Int32).toInt = 20 := by decide
  have b1 := hb.1
  have b2 := hb.2
  have c2 : ¬ f_X2_isBetween n 1 20 = 0 := btw_of (by omega) (by omega)
  have en := tn_pos (b_nn hb (by decide))
  have n6 : tn n ≤ 6 := by
    have q := btw_1 (n := 20) (by decide) c2
    have e := nI_toInt (n := tn n) (by omega)
    rw [← en] at e
    omega
  have c3 : σ 3 0 + n ≤ 60 := by
    rw [okS_3 hok, en, nI_add]
    exact nI_le (b := 60) (by omega) (by decide)
  have hx : tn (nI t) < nT σ ∧ nI t = nI (tn (nI t)) := by rw [tnT hok ht]; exact ⟨ht, rfl⟩
  obtain ⟨r1, r2, r3, r4, r5⟩ := inv_buys (x := nI t) (y := n) (σ0 := σ) (tn n + 1) 0 σ h hx (by omega) (by omega)
  have ev : m_X2_buyNew σ (nI t) n = (σ 3 0, (shU (g_X2_buyNew_46 σ (nI t) n (tn n + 1) 0 σ) 16 5 (((g_X2_buyNew_46 σ (nI t) n (tn n + 1) 0 σ) 16 5) + (n * ((g_X2_buyNew_46 σ (nI t) n (tn n + 1) 0 σ) 5 (tn (nI t))))))) := by
    unfold m_X2_buyNew
    rw [if_neg (htt hok ht), if_neg c2, if_pos c3]
  rw [ev] at hi ⊢
  generalize g_X2_buyNew_46 σ (nI t) n (tn n + 1) 0 σ = τ at r1 r2 r3 r4 r5 hi ⊢
  refine ⟨?_, hi, ?_, ?_, ?_, ?_⟩
  · show 0 ≤ σ 3 0
    rw [okS_3 hok]; exact Int32.not_lt.mp (nI_pos (by omega))
  · show tn (τ 1 0) = tn (σ 1 0)
    rw [r3]
  · show tn (τ 2 0) = tn (σ 2 0)
    rw [r4]
  · show nN τ ≤ _
    omega
  · show τ 0 0 = σ 0 0
    rw [r2]
theorem i1_all {tt nt : Nat} (h : I1 tt σ) (h3 : nt ≤ 3) (ht : ¬ nt ≤ tt) (y : Int32) {y1 y2 y3 y4 : Int32} :
    (m_X2_putTitle σ (500 + f_L_low y 5000) (3 + f_L_low y1 8)).1 = nI tt ∧
    (m_X2_putCourse (m_X2_putTitle σ (500 + f_L_low y 5000) (3 + f_L_low y1 8)).2 (nI tt) (1 + f_L_low y2 6) (f_L_low y3 20)).1 = nI tt ∧
    0 ≤ (m_X2_buyNew (m_X2_putCourse (m_X2_putTitle σ (500 + f_L_low y 5000) (3 + f_L_low y1 8)).2 (nI tt) (1 + f_L_low y2 6) (f_L_low y3 20)).2 (nI tt) (1 + f_L_low y4 6)).1 ∧
    I1 (tt + 1) (m_X2_buyNew (m_X2_putCourse (m_X2_putTitle σ (500 + f_L_low y 5000) (3 + f_L_low y1 8)).2 (nI tt) (1 + f_L_low y2 6) (f_L_low y3 20)).2 (nI tt) (1 + f_L_low y4 6)).2 := by
  obtain ⟨q1, q2, q3, q4, q5⟩ := h
  have l1 : (1 : Int32).toInt = 1 := by decide
  have l30 : (30 : Int32).toInt = 30 := by decide
  have l100 : (100 : Int32).toInt = 100 := by decide
  have l2 : (20000 : Int32).toInt = 20000 := by decide
  have l0 : (0 : Int32).toInt = 0 := by decide
  have l200 : (200 : Int32).toInt = 200 := by decide
  have bp : bnd (500 + f_L_low y 5000) 500 5499 := bnd_w (low_b y (n := 5000) (by decide) (by decide) 500 (by decide)) (by decide) (by decide)
  have be : bnd (3 + f_L_low y1 8) 3 10 := bnd_w (low_b y1 (n := 8) (by decide) (by decide) 3 (by decide)) (by decide) (by decide)
  have bc : bnd (1 + f_L_low y2 6) 1 6 := bnd_w (low_b y2 (n := 6) (by decide) (by decide) 1 (by decide)) (by decide) (by decide)
  have bn : bnd (1 + f_L_low y4 6) 1 6 := bnd_w (low_b y4 (n := 6) (by decide) (by decide) 1 (by decide)) (by decide) (by decide)
  have bd : bnd (f_L_low y3 20) 0 19 := by
    have b := low_b y3 (n := 20) (by decide) (by decide) 0 (by decide)
    rw [nI_zero, i_z] at b
    exact bnd_w b (by decide) (by decide)
  have p1 := bp.1
  have p2 := bp.2
  have e1 := be.1
  have e2 := be.2
  have c1 := bc.1
  have c2 := bc.2
  have d1 := bd.1
  have d2 := bd.2
  obtain ⟨u1, u2, u3, u4, u5, u6⟩ := t_1 q1 (p := 500 + f_L_low y 5000) (e := 3 + f_L_low y1 8) (btw_of (by omega) (by omega)) (btw_of (by omega) (by omega)) (by omega)
  generalize m_X2_putTitle σ (500 + f_L_low y 5000) (3 + f_L_low y1 8) = w1 at u1 u2 u3 u4 u5 u6 ⊢
  obtain ⟨v1, v2, v3, v4, v5, v6⟩ := t_2 u2 (t := tt) (by omega) (c := 1 + f_L_low y2 6) (d := f_L_low y3 20) (btw_of (by omega) (by omega)) (btw_of (by omega) (by omega)) (by omega)
  generalize m_X2_putCourse w1.2 (nI tt) (1 + f_L_low y2 6) (f_L_low y3 20) = w2 at v1 v2 v3 v4 v5 v6 ⊢
  obtain ⟨x1, x2, x3, x4, x5, x6⟩ := t_3 v2 (t := tt) (by omega) (n := 1 + f_L_low y4 6) bn (by omega)
  refine ⟨by rw [u1, q2], by rw [v1, u4, q3], x1, x2, by omega, by omega, by omega, ?_⟩
  rw [x6, v6, u6, q5]
theorem i1_0 : I1 0 sh0 := ⟨sh0_inv, rfl, rfl, Nat.le_of_eq n0_N, rfl⟩
end STEPS

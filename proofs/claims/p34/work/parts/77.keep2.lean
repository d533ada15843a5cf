/-! ===== buying, selling, renting, giving back, days, shelves keep it ===== -/
section KEEP2
variable {σ τ : ST}
theorem b_2 : bnd 2 0 4 := ⟨by decide, by decide⟩
theorem b_3 : bnd 3 0 4 := ⟨by decide, by decide⟩
theorem b_4 : bnd 4 0 4 := ⟨by decide, by decide⟩
theorem b_00 : bnd 0 0 4 := ⟨by decide, by decide⟩
theorem inv_copy (h : INV σ) {x y z : Int32} (hx : tn x < nT σ ∧ x = nI (tn x)) (hn : nN σ < 60) (hy : bnd y 0 30) (hz : bnd z 0 4) : INV (s_X2_putCopy σ x y z) := by
  have hok := iv_ok h
  have bT := (okS_b hok).1
  obtain ⟨ok, en⟩ := putCopy_ok hok (x := x) ⟨by omega, hx.2⟩ hn y z
  have e10 : ∀ k, s_X2_putCopy σ x y z 10 k = if k = nN σ then x else σ 10 k := fun k => by
    show (shU σ 10 (nN σ) x) 10 k = _
    exact shU_at
  have e13 : ∀ k, s_X2_putCopy σ x y z 13 k = if k = nN σ then 0 else σ 13 k := fun k => by
    show (shU (shU (shU (shU σ 10 (nN σ) x) 11 (nN σ) y) 12 (nN σ) z) 13 (nN σ) 0) 13 k = _
    exact shU_at
  have e14 : s_X2_putCopy σ x y z 14 = σ 14 := rfl
  refine ⟨⟨ok, ?_⟩, fun t ht => iv_6 h (t := t) ht, fun k hk => ?_, fun u hu => ?_, iv_s (σ := σ) h⟩
  · unfold s_X2_putCopy
    exact bdR_s (f := 3) (bdR_w (f := 13) (bdR_w (f := 12) (bdR_w (f := 11) (bdR_w (f := 10) (iv_q h).2 trivial) hy) hz) b_00) (fun _ => trivial)
  · have hk2 : k < nN σ + 1 := en ▸ hk
    show tn (s_X2_putCopy σ x y z 10 k) < nT σ
    rw [e10]
    by_cases c : k = nN σ
    · rw [if_pos c]; exact hx.1
    · rw [if_neg c]; exact iv_t h (by omega)
  · refine Nat.le_trans ?_ (iv_r h hu)
    unfold cR
    rw [en]
    have last : (if ¬ f_X2_isRentedBy (s_X2_putCopy σ x y z) (nN σ) (nI u) = 0 then 1 else 0) = 0 := if_neg (fun q => by
      have q1 := (rb_iff.mp q).1
      rw [e13, if_pos rfl] at q1
      exact absurd q1 (by decide))
    show sN (fun k => if ¬ f_X2_isRentedBy (s_X2_putCopy σ x y z) k (nI u) = 0 then 1 else 0) (nN σ) + (if ¬ f_X2_isRentedBy (s_X2_putCopy σ x y z) (nN σ) (nI u) = 0 then 1 else 0) ≤ _
    rw [last, Nat.add_zero]
    refine sN_le (fun k hk => ?_)
    show (if ¬ f_X2_isRentedBy (s_X2_putCopy σ x y z) k (nI u) = 0 then 1 else 0) ≤ (if ¬ f_X2_isRentedBy σ k (nI u) = 0 then 1 else 0)
    by_cases c : ¬ f_X2_isRentedBy (s_X2_putCopy σ x y z) k (nI u) = 0
    · obtain ⟨c1, c2⟩ := rb_iff.mp c
      rw [e13, if_neg (by omega)] at c1
      rw [e14] at c2
      rw [if_pos c, if_pos (rb_iff.mpr ⟨c1, c2⟩)]
      exact Nat.le_refl _
    · rw [if_neg c]; exact Nat.zero_le _
theorem inv_buys {x y : Int32} {σ0 : ST} : ∀ (fu k : Nat) (ω : ST), INV ω → tn x < nT ω ∧ x = nI (tn x) → nN ω + (tn y - k) ≤ 60 → tn y - k < fu →
    INV (g_X2_buyNew_46 σ0 x y fu k ω) ∧ (g_X2_buyNew_46 σ0 x y fu k ω) 0 = ω 0 ∧ (g_X2_buyNew_46 σ0 x y fu k ω) 1 = ω 1 ∧ (g_X2_buyNew_46 σ0 x y fu k ω) 2 = ω 2 ∧ nN (g_X2_buyNew_46 σ0 x y fu k ω) = nN ω + (tn y - k) := by
  intro fu
  induction fu with
  | zero => intro k ω _ _ _ hm; exact absurd hm (Nat.not_lt_zero _)
  | succ fu ih =>
    intro k ω h hx hn hm
    rw [g_X2_buyNew_46]
    by_cases c : tn y ≤ k
    · rw [if_pos c]; exact ⟨h, rfl, rfl, rfl, by omega⟩
    · rw [if_neg c]
      have bT := (okS_b (iv_ok h)).1
      have t6 : tn x < 6 := by omega
      have k1 := inv_copy h (y := ω 6 (tn x)) (z := 0) hx (by omega) (rl_b6 (iv_q h) t6) b_00
      have en := (putCopy_ok (iv_ok h) (x := x) ⟨t6, hx.2⟩ (by omega) (ω 6 (tn x)) 0).2
      obtain ⟨r1, r2, r3, r4, r5⟩ := ih (k + 1) _ k1 hx (by rw [en]; omega) (by omega)
      exact ⟨r1, r2, r3, r4, by rw [r5, en]; omega⟩
theorem btw_1 {y : Int32} {n : Nat} (hn : n < 1000) (c : ¬ f_X2_isBetween y 1 (nI n) = 0) : tn y ≤ n ∧ y = nI (tn y) ∧ 1 ≤ tn y := by
  have b := btwN n c (by decide) rfl (by omega)
  have q := (btw_nz c).1
  refine ⟨b.1, b.2, ?_⟩
  rw [b.2] at q
  exact (nI_leI (a := 1) (by decide) (by omega)).mp q
theorem buy_cap (h : okS σ) {y : Int32} (c : ¬ f_X2_isBetween y 1 20 = 0) (d : σ 3 0 + y ≤ 60) : nN σ + tn y ≤ 60 := by
  have b := btw_1 (n := 20) (by decide) c
  exact cap_ok (okS_3 h) b.2.1 d (by have := (okS_b h).2.2; omega) (by omega)
theorem inv_buy (h : INV σ) (x y : Int32) : INV (m_X2_buyNew σ x y).2 := by
  unfold m_X2_buyNew
  by_cases c1 : f_X2_hasTitle σ x = 0
  · rw [if_pos c1]; exact h
  by_cases c2 : f_X2_isBetween y 1 20 = 0
  · rw [if_neg c1, if_pos c2]; exact h
  by_cases c3 : σ 3 0 + y ≤ 60
  · rw [if_neg c1, if_neg c2, if_pos c3]
    exact inv_16 (inv_buys (tn y + 1) 0 σ h (hasTitle_ok (iv_ok h) c1) (buy_cap (iv_ok h) c2 c3) (by omega)).1 (by decide) _
  · rw [if_neg c1, if_neg c2, if_neg c3]; exact h
theorem offer_in {x y z : Int32} (h : 0 ≤ f_X2_offerFor σ x y z) : ¬ f_X2_hasTitle σ x = 0 ∧ ¬ f_X2_isEdition y = 0 ∧ ¬ f_X2_isGrade z = 0 := by
  unfold f_X2_offerFor at h
  by_cases c1 : f_X2_hasTitle σ x = 0
  · rw [if_pos c1] at h; exact absurd h (by decide)
  by_cases c2 : f_X2_isEdition y = 0
  · rw [if_neg c1, if_pos c2] at h; exact absurd h (by decide)
  by_cases c3 : f_X2_isGrade z = 0
  · rw [if_neg c1, if_neg c2, if_pos c3] at h; exact absurd h (by decide)
  exact ⟨c1, c2, c3⟩
theorem inv_buyBack (h : INV σ) (x y z : Int32) : INV (m_X2_buyUsed σ x y z).2 := by
  unfold m_X2_buyUsed
  by_cases c1 : 0 ≤ f_X2_offerFor σ x y z
  · rw [if_pos c1]
    by_cases c2 : f_X2_offerFor σ x y z = 0
    · rw [if_pos c2]; exact h
    by_cases c3 : nN σ < 60
    · rw [if_neg c2, if_pos c3]
      obtain ⟨d1, d2, d3⟩ := offer_in c1
      exact inv_16 (inv_copy h (hasTitle_ok (iv_ok h) d1) c3 (ed_b d2) (b_gr d3)) (by decide) _
    · rw [if_neg c2, if_neg c3]; exact h
  · rw [if_neg c1]; exact h
theorem inv_sell (h : INV σ) (x : Int32) : INV (m_X2_sellCopy σ x).2 := by
  unfold m_X2_sellCopy
  by_cases c1 : f_X2_hasCopy σ x = 0
  · rw [if_pos c1]; exact h
  by_cases c2 : σ 13 (tn x) = 0
  · rw [if_neg c1, if_pos c2]
    exact inv_16 (inv_13 h (tn x) (v := 2) (by decide) b_2) (i := 4) (by decide) _
  · rw [if_neg c1, if_neg c2]; exact h
theorem canRent_lt {x y : Int32} : ∀ (fu k : Nat), ¬ g_X2_canRent_2 σ x y fu k = 0 → ¬ 4 ≤ f_X2_rentedBy σ x := by
  intro fu
  induction fu with
  | zero => intro k q; exact absurd rfl q
  | succ fu ih =>
    intro k q
    rw [g_X2_canRent_2] at q
    by_cases c : nN σ ≤ k
    · rw [if_pos c] at q
      intro z
      rw [if_pos z] at q
      exact q rfl
    · rw [if_neg c] at q
      by_cases d : f_X2_isRentedBy σ k x = 0
      · rw [if_pos d] at q; exact ih _ q
      · rw [if_neg d] at q
        by_cases e : σ 10 k = y
        · rw [if_pos e] at q; exact absurd rfl q
        · rw [if_neg e] at q; exact ih _ q
theorem sN_le_one {f g : Nat → Nat} (j : Nat) (hj : f j ≤ 1) : ∀ {n : Nat}, (∀ k, k < n → k ≠ j → f k ≤ g k) → sN f n ≤ sN g n + 1 := by
  intro n
  induction n with
  | zero => intro _; exact Nat.zero_le _
  | succ n ih =>
    intro h
    show sN f n + f n ≤ sN g n + g n + 1
    by_cases c : n = j
    · subst c
      have := sN_le (f := f) (g := g) (n := n) (fun k hk => h k (by omega) (by omega))
      omega
    · have h1 := ih (fun k hk hkj => h k (by omega) hkj)
      have h2 := h n (by omega) c
      omega
theorem inv_lend (h : INV σ) {x : Int32} {b : Nat} {u : Int32} (hx : tn x < 8 ∧ x = nI (tn x)) (h4 : ¬ 4 ≤ f_X2_rentedBy σ x) (hu : bnd u 0 100200) (hok : okS (shU (shU (shU σ 13 b 1) 14 b x) 15 b u)) : INV (shU (shU (shU σ 13 b 1) 14 b x) 15 b u) := by
  have e13 : ∀ k, (shU (shU (shU σ 13 b 1) 14 b x) 15 b u) 13 k = if k = b then 1 else σ 13 k := fun k => by
    show (shU σ 13 b 1) 13 k = _
    exact shU_at
  have e14 : ∀ k, (shU (shU (shU σ 13 b 1) 14 b x) 15 b u) 14 k = if k = b then x else σ 14 k := fun k => by
    show (shU (shU σ 13 b 1) 14 b x) 14 k = _
    exact shU_at
  have en : nN (shU (shU (shU σ 13 b 1) 14 b x) 15 b u) = nN σ := rfl
  refine ⟨⟨hok, bdR_w (f := 15) (bdR_w (f := 14) (bdR_w (f := 13) (iv_q h).2 ⟨by decide, by decide⟩) trivial) hu⟩, fun t ht => iv_6 h (t := t) ht, fun k hk => iv_t h (k := k) hk, fun z hz => ?_, iv_s (σ := σ) h⟩
  unfold cR
  rw [en]
  by_cases c : z = tn x
  · have l4 : cR σ z < 4 := by
      have e : x = nI z := by rw [c]; exact hx.2
      rw [e, rent_n] at h4
      have b60 := sN_le1 (p := fun k => ¬ f_X2_isRentedBy σ k (nI z) = 0) (iv_ok h)
      have l60 : cR σ z ≤ 60 := b60
      exact Nat.lt_of_not_le (fun q => h4 (nI_le (a := 4) q (by omega)))
    have m := sN_le_one (f := fun k => if ¬ f_X2_isRentedBy (shU (shU (shU σ 13 b 1) 14 b x) 15 b u) k (nI z) = 0 then 1 else 0) (g := fun k => if ¬ f_X2_isRentedBy σ k (nI z) = 0 then 1 else 0) b (by show (if _ then 1 else 0) ≤ 1; split <;> omega) (n := nN σ) (fun k _ hkb => by
      show (if ¬ f_X2_isRentedBy (shU (shU (shU σ 13 b 1) 14 b x) 15 b u) k (nI z) = 0 then 1 else 0) ≤ (if ¬ f_X2_isRentedBy σ k (nI z) = 0 then 1 else 0)
      by_cases d : ¬ f_X2_isRentedBy (shU (shU (shU σ 13 b 1) 14 b x) 15 b u) k (nI z) = 0
      · obtain ⟨d1, d2⟩ := rb_iff.mp d
        rw [e13, if_neg hkb] at d1
        rw [e14, if_neg hkb] at d2
        rw [if_pos d, if_pos (rb_iff.mpr ⟨d1, d2⟩)]
        exact Nat.le_refl _
      · rw [if_neg d]; exact Nat.zero_le _)
    have l4' : sN (fun k => if ¬ f_X2_isRentedBy σ k (nI z) = 0 then 1 else 0) (nN σ) < 4 := l4
    omega
  · refine Nat.le_trans (sN_le (fun k _ => ?_)) (iv_r h hz)
    show (if ¬ f_X2_isRentedBy (shU (shU (shU σ 13 b 1) 14 b x) 15 b u) k (nI z) = 0 then 1 else 0) ≤ (if ¬ f_X2_isRentedBy σ k (nI z) = 0 then 1 else 0)
    by_cases d : ¬ f_X2_isRentedBy (shU (shU (shU σ 13 b 1) 14 b x) 15 b u) k (nI z) = 0
    · obtain ⟨d1, d2⟩ := rb_iff.mp d
      rw [e13] at d1
      rw [e14] at d2
      by_cases q : k = b
      · rw [if_pos q, hx.2] at d2
        exact absurd ((nI_eq (by omega) (by omega)).mp d2) (fun w => c w.symm)
      · rw [if_neg q] at d1 d2
        rw [if_pos d, if_pos (rb_iff.mpr ⟨d1, d2⟩)]
        exact Nat.le_refl _
    · rw [if_neg d]; exact Nat.zero_le _
end KEEP2

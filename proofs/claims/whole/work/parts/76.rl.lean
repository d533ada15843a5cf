/-! ===== copies come, are sold and rented, the same of both ===== -/
section OPC
variable {σ : Nat → Nat → Int32} {μ S : Nat → Nat → Int32}
theorem comes_row {x y z : Int32} : s_X4_comes S x y z 0 = upd (upd (upd (upd (upd (upd (upd (S 0) (53 + 6 * mN S) x) (53 + 6 * mN S + 1) y) (53 + 6 * mN S + 2) z) (53 + 6 * mN S + 3) 0) (53 + 6 * mN S + 4) (-1)) (53 + 6 * mN S + 5) (-1)) 1 (S 0 1 + 1) := by
  funext j
  by_cases c : j = 1
  · subst c; rw [comes_1, up_us]
  · rw [up_un c]
    unfold s_X4_comes
    rw [u0, up_un c]
    unfold s_X4_sets
    rw [u0, u0, u0, u0, u0, u0]
    rfl
theorem rq_copy {x y z : Int32} (h : rl σ (S 0)) (hx : tn x < 6 ∧ x = nI (tn x)) (hn : nN σ < 60) (hy : bnd y 0 30) (hz : bnd z 0 4) : rl (s_X2_putCopy σ x y z) (s_X4_comes S x y z 0) := by
  have hp := putCopy_ok h.1 hx hn y z
  rw [comes_row, rl_N h, rl_e1 h]
  have e0 : tn (σ 3 0) = nN σ := rfl
  refine ⟨hp.1, ?_, ?_, ?_⟩
  · unfold s_X2_putCopy
    rw [e0]
    exact eqR_s (eqR_5 (eqR_4 (eqR_w (eqR_w (eqR_w (eqR_w h.2.1 10 (nN σ) hn x) 11 (nN σ) hn y) 12 (nN σ) hn z) 13 (nN σ) hn 0) (nN σ) (-1)) (nN σ) (-1)) 3 (by decide) _
  · intro k hk
    rw [hp.2] at hk
    have e13 : s_X2_putCopy σ x y z 13 k = if k = nN σ then 0 else σ 13 k := shU_at (σ := shU (shU (shU σ 10 (tn (σ 3 0)) x) 11 (tn (σ 3 0)) y) 12 (tn (σ 3 0)) z) (f := 13) (k := nN σ) (j := k) (x := 0)
    have e14 : s_X2_putCopy σ x y z 14 k = σ 14 k := rfl
    have e15 : s_X2_putCopy σ x y z 15 k = σ 15 k := rfl
    rw [e13, e14, e15, up_un (show 53 + 6 * k + 4 ≠ 1 by omega), up_un (show 53 + 6 * k + 5 ≠ 1 by omega)]
    by_cases d : k = nN σ
    · subst d
      rw [if_pos rfl, up_un (show 53 + 6 * nN σ + 4 ≠ 53 + 6 * nN σ + 5 by omega), up_us, up_us]
      exact ⟨fun q => absurd q (by decide), fun _ => ⟨rfl, rfl⟩⟩
    · rw [if_neg d]
      rw [up_un (show 53 + 6 * k + 4 ≠ 53 + 6 * nN σ + 5 by omega), up_un (show 53 + 6 * k + 4 ≠ 53 + 6 * nN σ + 4 by omega), up_un (show 53 + 6 * k + 4 ≠ 53 + 6 * nN σ + 3 by omega), up_un (show 53 + 6 * k + 4 ≠ 53 + 6 * nN σ + 2 by omega), up_un (show 53 + 6 * k + 4 ≠ 53 + 6 * nN σ + 1 by omega), up_un (show 53 + 6 * k + 4 ≠ 53 + 6 * nN σ by omega)]
      rw [up_un (show 53 + 6 * k + 5 ≠ 53 + 6 * nN σ + 5 by omega), up_un (show 53 + 6 * k + 5 ≠ 53 + 6 * nN σ + 4 by omega), up_un (show 53 + 6 * k + 5 ≠ 53 + 6 * nN σ + 3 by omega), up_un (show 53 + 6 * k + 5 ≠ 53 + 6 * nN σ + 2 by omega), up_un (show 53 + 6 * k + 5 ≠ 53 + 6 * nN σ + 1 by omega), up_un (show 53 + 6 * k + 5 ≠ 53 + 6 * nN σ by omega)]
      exact h.2.2.1 k (by omega)
  · exact bdR_s (f := 3) (bdR_w (f := 13) (bdR_w (f := 12) (bdR_w (f := 11) (bdR_w (f := 10) h.2.2.2 trivial) hy) hz) ⟨by decide, by decide⟩) (fun _ => trivial)
theorem fr_comes {x y z : Int32} (hn : mN S < 60) : fr S (s_X4_comes S x y z) := by
  unfold s_X4_comes s_X4_sets
  have e : tn (S 0 1) = mN S := rfl
  rw [e]
  exact fr_w (fr_w (fr_w (fr_w (fr_w (fr_w (fr_w fr_r (by omega) _) (by omega) _) (by omega) _) (by omega) _) (by omega) _) (by omega) _) (by omega) _
theorem rq_sum (h : rl σ (S 0)) {k : Nat} (hk : k < 7) (v w : Int32) (hv : v = w) : rl (shU σ 16 k (σ 16 k + v)) (shU S 0 (8 + k) (S 0 (8 + k) + w) 0) := by
  subst hv
  rw [u0, rl_sum h hk]
  exact ⟨okS_of h.1 rfl rfl rfl rfl rfl (fun _ q => q), rq_w (rl_q h) 16 k hk (by decide) trivial⟩
theorem buys_g2 {t q : Nat} {x y : Int32} {σ0 μ0 : Nat → Nat → Int32} (ht : t < 6) (hx : x = nI t) (hq : tn y = q) : ∀ (fu k : Nat) (ω Ω : Nat → Nat → Int32), rl ω (Ω 0) → nN ω + (q - k) ≤ 60 → rl (g_X2_buyNew_46 σ0 x y fu k ω) (g_X4_buys_10 μ0 t q fu k Ω 0) ∧ fr Ω (g_X4_buys_10 μ0 t q fu k Ω) := by
  have tx : tn x = t := by rw [hx]; exact tn_nI (by omega)
  intro fu
  induction fu with
  | zero => intro k ω Ω h _; exact ⟨h, fr_r⟩
  | succ fu ih =>
    intro k ω Ω h hn
    rw [g_X2_buyNew_46, g_X4_buys_10, hq]
    by_cases c : q ≤ k
    · rw [if_pos c, if_pos c]; exact ⟨h, fr_r⟩
    · rw [if_neg c, if_neg c, tx, rl_cur h ht, ← hx]
      have h6 := rl_b6 h ht
      have r := rq_copy (x := x) (y := ω 6 t) (z := 0) h ⟨by rw [tx]; exact ht, by rw [tx]; exact hx⟩ (by omega) h6 ⟨by decide, by decide⟩
      have n := (putCopy_ok h.1 (x := x) ⟨by rw [tx]; exact ht, by rw [tx]; exact hx⟩ (by omega) (ω 6 t) 0).2
      obtain ⟨a, b⟩ := ih (k + 1) _ _ r (by rw [n]; omega)
      exact ⟨a, fr_t (fr_comes (by rw [rl_N h]; omega)) b⟩
theorem cap_eq {x y : Int32} {a b : Nat} (hx : x = nI a) (hy : y = nI b) (ha : a < 1000) (hb : b < 1000) : (x + y ≤ 60) = (a + b ≤ 60) := by
  rw [hx, hy, nI_add]
  exact propext (nI_leI (b := 60) (by omega) (by omega))
theorem a_buy (h : rl σ (μ 0)) (x y : Int32) : alike σ (m_X2_buyNew σ x y) (f_X4_cannotBuy μ x y) (fun S => m_X4_buys S (tn x) (tn y)) := by
  have okp : okS (m_X2_buyNew σ x y).2 := buyNew_ok h.1 x y
  unfold m_X2_buyNew at okp
  unfold alike m_X2_buyNew f_X4_cannotBuy
  rw [e_isT h, e_in, rl_e1 h]
  by_cases c : f_X2_hasTitle σ x = 0
  · rw [if_pos c, if_pos c]; exact Or.inl ⟨m2.1, m2.2, rfl⟩
  rw [if_neg c] at okp
  rw [if_neg c, if_neg c]
  by_cases d : f_X2_isBetween y 1 20 = 0
  · rw [if_pos d, if_pos d]; exact Or.inl ⟨m3.1, m3.2, rfl⟩
  rw [if_neg d] at okp
  rw [if_neg d, if_neg d]
  obtain ⟨t1, t2⟩ := hasTitle_ok h.1 c
  have t6 := rl_6t h t1
  have hy := btwN 20 d (by decide) rfl (by decide)
  have hN := (okS_b h.1).2.2
  by_cases e : σ 3 0 + y ≤ 60
  · rw [if_pos e] at okp
    rw [if_pos e, if_pos e]
    have e2 : nN σ + tn y ≤ 60 := by rw [← cap_eq (okS_3 h.1) hy.2 (by omega) (by omega)]; exact e
    refine Or.inr ⟨rfl, ?_, fun S hS => ?_⟩
    · show 0 ≤ σ 3 0
      rw [okS_3 h.1]; exact nI_pos' (by omega)
    · obtain ⟨a, b⟩ := buys_g2 (t := tn x) (q := tn y) (x := x) (y := y) (σ0 := σ) (μ0 := S) t6 t2 rfl (tn y + 1) 0 σ S hS (by omega)
      refine ⟨rl_e1 hS, ?_, fr_t b (fr_w fr_r (by omega) _)⟩
      exact rq_sum a (k := 5) (by decide) _ _ (by rw [rl_price a t6, ← hy.2])
  · rw [if_neg e, if_neg e]; exact Or.inl ⟨m5.1, m5.2, rfl⟩
theorem r_buy (h : rl σ (μ 0)) (hok : okM μ) (x y : Int32) : recd σ μ (m_X2_buyNew σ x y) (m_X4_buy μ x y) := alike_rec h hok (a_buy h x y)
theorem b_worth (h : rl σ (μ 0)) {k : Nat} (hk : k < nN σ) : bnd (f_X2_worthOf σ k) 0 20000 := (e_wq h (bnd_w (rl_b6 h (tOf_6 h hk)) (by decide) (by decide)) (rl_b11 h (rl_60 h hk)) (rl_b12 h k)).2
theorem b_pct {w p : Int32} {n : Nat} (hw : bnd w 0 20000) (hp : bnd p n n) (hn : n ≤ 100) : bnd ((w * p) / 100) 0 20000 := by
  have a := b_mul hw (bnd_w hp (by omega) (by omega : (n : Int) ≤ 100)) (by decide)
  exact (b_div (d := 100) 100 a.2 (by decide) (by decide) (by decide)).2
theorem b_offer (h : rl σ (μ 0)) {x y z : Int32} (c : ¬ f_X2_hasTitle σ x = 0) (d : ¬ f_X2_isEdition y = 0) (e : ¬ f_X2_isGrade z = 0) : bnd (f_X2_offerFor σ x y z) 0 20000 := by
  obtain ⟨t1, t2⟩ := hasTitle_ok h.1 c
  have t6 := rl_6t h t1
  have b := (e_wq h (t := tn x) (c := σ 6 (tn x)) (y := y) (z := z) (bnd_w (rl_b6 h t6) (by decide) (by decide)) (ed_b d) (bnd_w (bnd_btw e) (by decide) (by decide))).2
  have b2 := b_pct (p := 40) (n := 40) b ⟨by decide, by decide⟩ (by decide)
  have b3 := (b_div (d := 2) 2 b2 (by decide) (by decide) (by decide)).2
  unfold f_X2_offerFor
  rw [if_neg c, if_neg d, if_neg e]
  split
  · exact ⟨by decide, by decide⟩
  · split
    · exact b2
    · exact bnd_w b3 (by decide) (by decide)
theorem f_60 {x : Int32} {n : Nat} (hx : x = nI n) (hn : n ≤ 60) : (x = 60) = ¬ (n < 60) := f_lt hx hn (by decide)
theorem r_buyBack (h : rl σ (μ 0)) (hok : okM μ) (x y z : Int32) : recd σ μ (m_X2_buyUsed σ x y z) (m_X4_buyBack μ x y z) := by
  have htt : 0 ≤ f_X2_offerFor σ x y z → tn x < nT σ ∧ x = nI (tn x) := by
    intro q
    by_cases c : f_X2_hasTitle σ x = 0
    · unfold f_X2_offerFor at q
      rw [if_pos c] at q; exact absurd q (by decide)
    · exact hasTitle_ok h.1 c
  have okp : okS (m_X2_buyUsed σ x y z).2 := buyUsed_ok h.1 x y z htt
  unfold m_X2_buyUsed at okp
  unfold m_X2_buyUsed m_X4_buyBack
  rw [cannotOffer_z h]
  by_cases c : f_X2_hasTitle σ x = 0
  · have eo : f_X2_offerFor σ x y z = -2 := by unfold f_X2_offerFor; rw [if_pos c]
    rw [eo, if_neg (show ¬ (0 : Int32) ≤ -2 by decide)]
    simp only [if_pos c, if_neg (show ¬ (-2 : Int32) = 0 by decide)]
    exact Or.inl ⟨m2.2, rfl, rfl⟩
  by_cases d : f_X2_isEdition y = 0
  · have eo : f_X2_offerFor σ x y z = -3 := by unfold f_X2_offerFor; rw [if_neg c, if_pos d]
    rw [eo, if_neg (show ¬ (0 : Int32) ≤ -3 by decide)]
    simp only [if_neg c, if_pos d, if_neg (show ¬ (-3 : Int32) = 0 by decide)]
    exact Or.inl ⟨m3.2, rfl, rfl⟩
  by_cases e : f_X2_isGrade z = 0
  · have eo : f_X2_offerFor σ x y z = -3 := by unfold f_X2_offerFor; rw [if_neg c, if_neg d, if_pos e]
    rw [eo, if_neg (show ¬ (0 : Int32) ≤ -3 by decide)]
    simp only [if_neg c, if_neg d, if_pos e, if_neg (show ¬ (-3 : Int32) = 0 by decide)]
    exact Or.inl ⟨m3.2, rfl, rfl⟩
  obtain ⟨t1, t2⟩ := hasTitle_ok h.1 c
  have t6 := rl_6t h t1
  have eo : f_X4_offered μ (tn x) y z = f_X2_offerFor σ x y z := by
    rw [e_offered h t6 (ed_b d), ← t2]
    unfold f_X2_offerFor
    rw [if_neg c, if_neg d, if_neg e]
  have bo := b_offer h c d e
  have po := b_nn bo (by decide)
  rw [if_pos po] at okp
  rw [if_pos po]
  simp only [if_neg c, if_neg d, if_neg e, if_true]
  rw [eo, rl_e1 h]
  by_cases o : f_X2_offerFor σ x y z = 0
  · rw [if_pos o, if_pos o]; exact Or.inl ⟨m4.2, rfl, rfl⟩
  rw [if_neg o] at okp
  rw [if_neg o, if_neg o]
  have hN := (okS_b h.1).2.2
  by_cases f : nN σ < 60
  · rw [if_pos f] at okp
    rw [if_pos f, if_neg (by rw [f_60 (okS_3 h.1) hN]; exact fun q => q f)]
    have hS := rl_saves h hok
    have hx : tn x < 6 ∧ x = nI (tn x) := ⟨t6, t2⟩
    have a := rq_copy (x := x) (y := y) (z := z) hS hx f (ed_b d) (bnd_w (bnd_btw e) (by decide) (by decide))
    have n := putCopy_ok h.1 hx f y z
    refine Or.inr ⟨?_, ?_, ?_, ?_⟩
    · show 0 ≤ (s_X2_putCopy σ x y z 3 0) - 1
      rw [okS_3 n.1, n.2, nI_pred]; exact nI_pos' (by omega)
    · show s_X4_comes (s_X4_saves μ) x y z 0 1 - 1 = (s_X2_putCopy σ x y z 3 0) - 1
      rw [rl_e1 a]
    · exact rq_sum a (k := 6) (by decide) _ _ rfl
    · exact fr_t (fr_comes (by rw [rl_N hS]; exact f)) (fr_w fr_r (by omega) _)
  · rw [if_neg f, if_pos (by rw [f_60 (okS_3 h.1) hN]; exact f)]; exact Or.inl ⟨m5.2, rfl, rfl⟩
/-! a copy is sold -/
theorem goes_row {k : Nat} {v : Int32} : s_X4_goes S k v 0 = upd (upd (upd (S 0) (53 + 6 * k + 3) v) (53 + 6 * k + 4) (-1)) (53 + 6 * k + 5) (-1) := by
  unfold s_X4_goes s_X4_sets
  rw [u0, u0, u0]
theorem fr_goes {k : Nat} {v : Int32} (hk : k < 60) : fr S (s_X4_goes S k v) := fr_w (fr_w (fr_w fr_r (by omega) _) (by omega) _) (by omega) _
theorem e_sale (h : rl σ (S 0)) {k : Nat} (hk : k < nN σ) : f_X4_copyNow S k 8 = f_X2_saleCost σ k := by
  unfold f_X4_copyNow f_X2_saleCost
  rw [e_worthOf h hk]
  rfl
theorem e_rentC (h : rl σ (S 0)) {k : Nat} (hk : k < nN σ) : f_X4_copyNow S k 7 = f_X2_rentCost σ k := by
  unfold f_X4_copyNow f_X2_rentCost
  rw [e_worthOf h hk]
  rfl
theorem a_sell (h : rl σ (μ 0)) (x : Int32) : alike σ (m_X2_sellCopy σ x) (f_X4_cannotSell μ x) (fun S => m_X4_sells S (tn x)) := by
  have okp : okS (m_X2_sellCopy σ x).2 := sellCopy_ok h.1 x
  unfold m_X2_sellCopy at okp
  unfold alike m_X2_sellCopy f_X4_cannotSell
  rw [e_isK h]
  by_cases c : f_X2_hasCopy σ x = 0
  · rw [if_pos c, if_pos c]; exact Or.inl ⟨m2.1, m2.2, rfl⟩
  rw [if_neg c] at okp
  rw [if_neg c, if_neg c]
  obtain ⟨t1, t2⟩ := hasCopy_ok h.1 c
  have k6 := rl_60 h t1
  simp only [rl_is h k6, ite_not]
  by_cases d : σ 13 (tn x) = 0
  · rw [if_pos d] at okp
    rw [if_pos d, if_pos d]
    refine Or.inr ⟨rfl, b_nn (b_pct (p := 75) (n := 75) (b_worth h t1) ⟨by decide, by decide⟩ (by decide)) (by decide), fun S hS => ⟨e_sale hS t1, ?_, fr_t (fr_goes k6) (fr_w fr_r (by omega) _)⟩⟩
    have a : rl (shU σ 13 (tn x) 2) (s_X4_goes S (tn x) 2 0) := ⟨okS_of h.1 rfl rfl rfl rfl rfl (fun _ q => shU_13 (σ := σ) (by decide) q), by
      rw [goes_row]; exact rq_go (rl_q hS) k6 (by decide) ⟨by decide, by decide⟩⟩
    exact rq_sum a (k := 4) (by decide) _ _ (e_sale hS t1).symm
  · rw [if_neg d, if_neg d]; exact Or.inl ⟨m4.1, m4.2, rfl⟩
theorem r_sell (h : rl σ (μ 0)) (hok : okM μ) (x : Int32) : recd σ μ (m_X2_sellCopy σ x) (m_X4_sell μ x) := alike_rec h hok (a_sell h x)
/-! a copy is rented -/
theorem ch_row {cu su : Nat} {v : Int32} (hc : cu < 8) (hs : su < 7) : s_X4_charges S cu su v 0 = upd (upd (S 0) (8 + su) (S 0 (8 + su) + v)) (15 + cu) (S 0 (15 + cu) + v) := by
  unfold s_X4_charges
  rw [shU_ne (show 15 + cu ≠ 8 + su by omega), u0, u0]
theorem fr_ch {cu su : Nat} {v : Int32} (hc : cu < 8) (hs : su < 7) : fr S (s_X4_charges S cu su v) := fr_w (fr_w fr_r (by omega) _) (by omega) _
theorem rq_ch (h : rq σ (S 0)) {cu su : Nat} (hc : cu < 8) (hs : su < 7) (v : Int32) : rq (shU (shU σ 16 su (σ 16 su + v)) 17 cu (σ 17 cu + v)) (s_X4_charges S cu su v 0) := by
  have e1 : S 0 (8 + su) = σ 16 su := h.1 16 su hs
  have e2 : S 0 (15 + cu) = σ 17 cu := h.1 17 cu hc
  rw [ch_row hc hs, e1, e2]
  exact rq_w (rq_w h 16 su hs (by decide) trivial) 17 cu hc (by decide) trivial
theorem rent_st {k i j : Nat} {v1 v2 v3 v4 : Int32} : shU (shU (shU (shU (shU σ 16 i v1) 17 j v2) 13 k 1) 14 k v3) 15 k v4 = shU (shU (shU (shU (shU σ 13 k 1) 14 k v3) 15 k v4) 16 i v1) 17 j v2 := by
  rw [shU_cm (f := 17) (g := 13) (by decide), shU_cm (f := 16) (g := 13) (by decide), shU_cm (f := 17) (g := 14) (by decide), shU_cm (f := 16) (g := 14) (by decide), shU_cm (f := 17) (g := 15) (by decide), shU_cm (f := 16) (g := 15) (by decide)]
theorem cannotRent_z (h : rl σ (μ 0)) (x y : Int32) : f_X4_cannotRent μ x y = (if f_X2_hasCustomer x = 0 then -2 else if f_X2_hasCourse σ y = 0 then -2 else if f_X2_canRent σ x (σ 7 (tn y)) = 0 then -4 else if f_X2_bestFor σ (tn y) = -1 then -4 else 0) := by
  unfold f_X4_cannotRent
  rw [e_isU, e_isC h]
  by_cases c : f_X2_hasCustomer x = 0
  · rw [if_pos c, if_pos c]
  · by_cases d : f_X2_hasCourse σ y = 0
    · rw [if_neg c, if_neg c, if_pos d, if_pos d]
    · have c6 := rl_6 h (hasCourse_ok h.1 d).1
      rw [q_canRent h, rl_c0 h c6, q_nextOf h c6]
theorem a_rent (h : rl σ (μ 0)) (x y : Int32) : alike σ (m_X2_rentCopy σ x y) (f_X4_cannotRent μ x y) (fun S => m_X4_rents S (tn x) (tn y)) := by
  have okp : okS (m_X2_rentCopy σ x y).2 := rentCopy_ok h.1 x y
  unfold m_X2_rentCopy at okp
  unfold alike m_X2_rentCopy
  rw [cannotRent_z h]
  by_cases c : f_X2_hasCustomer x = 0
  · rw [if_pos c, if_pos c]; exact Or.inl ⟨m2.1, m2.2, rfl⟩
  rw [if_neg c] at okp
  rw [if_neg c, if_neg c]
  by_cases d : f_X2_hasCourse σ y = 0
  · rw [if_pos d, if_pos d]; exact Or.inl ⟨m2.1, m2.2, rfl⟩
  rw [if_neg d] at okp
  rw [if_neg d, if_neg d]
  have c6 := rl_6 h (hasCourse_ok h.1 d).1
  by_cases e : f_X2_bestFor σ (tn y) = -1
  · rw [if_pos e, if_pos e, ite_self]; exact Or.inl ⟨m4.1, m4.2, rfl⟩
  rw [if_neg e] at okp
  rw [if_neg e, if_neg e]
  by_cases f : f_X2_canRent σ x (σ 7 (tn y)) = 0
  · rw [if_pos f, if_pos f]; exact Or.inl ⟨m4.1, m4.2, rfl⟩
  rw [if_neg f] at okp
  rw [if_neg f, if_neg f]
  obtain ⟨b1, b2⟩ := (bestFor_ok h.1 (tn y)).resolve_left e
  have k6 := rl_60 h b1
  obtain ⟨u1, u2⟩ := hasCustomer_ok c
  refine Or.inr ⟨rfl, ?_, fun S hS => ?_⟩
  · show 0 ≤ f_X2_bestFor σ (tn y)
    rw [b2]; exact nI_pos' (by omega)
  unfold m_X4_rents
  dsimp only
  rw [q_nextOf hS c6, e_rentC hS b1, ← u2]
  generalize f_X2_bestFor σ (tn y) = b at *
  have h03 : (s_X4_sets (s_X4_sets (s_X4_charges S (tn x) 0 (f_X2_rentCost σ (tn b))) (tn b) 3 1) (tn b) 4 x) 0 3 = σ 0 0 := by
    rw [sets_ne (by omega), sets_ne (by omega), charges_hi u1 (by decide) (by omega)]; exact rl_day hS
  have h04 : (s_X4_sets (s_X4_sets (s_X4_charges S (tn x) 0 (f_X2_rentCost σ (tn b))) (tn b) 3 1) (tn b) 4 x) 0 4 = σ 4 0 := by
    rw [sets_ne (by omega), sets_ne (by omega), charges_hi u1 (by decide) (by omega)]; exact rl_set hS (k := 0) (by decide)
  rw [h03, h04]
  refine ⟨rfl, ⟨okp, ?_⟩, fr_t (fr_ch u1 (by decide)) (fr_w (fr_w (fr_w fr_r (by omega) _) (by omega) _) (by omega) _)⟩
  show rq _ ((shU (shU (shU (s_X4_charges S (tn x) 0 (f_X2_rentCost σ (tn b))) 0 (53 + 6 * tn b + 3) 1) 0 (53 + 6 * tn b + 4) x) 0 (53 + 6 * tn b + 5) (σ 0 0 + σ 4 0)) 0)
  rw [u0, u0, u0, ← rent_st]
  exact rq_rent (rq_ch (rl_q hS) u1 (by decide) _) k6 (bnd_w (b_add (rl_b0 h) (rl_b40 h)) (by decide) (by decide))
theorem r_rent (h : rl σ (μ 0)) (hok : okM μ) (x y : Int32) : recd σ μ (m_X2_rentCopy σ x y) (m_X4_rent μ x y) := alike_rec h hok (a_rent h x y)
end OPC

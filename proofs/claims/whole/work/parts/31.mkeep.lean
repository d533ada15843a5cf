/-! ===== what the model's changes keep ===== -/
theorem okM_mk {μ μ' : Nat → Nat → Int32} (h : okM μ) (n' : Nat) (e0 : μ' 0 0 = μ 0 0) (hn : μ' 0 1 = nI n') (hb : n' ≤ 60) (e2 : μ' 0 2 = μ 0 2) (e6 : μ' 0 6 = μ 0 6) (es : μ' 1 0 = μ 1 0)
    (et : ∀ k, k < n' → ∃ t, t < 6 ∧ μ' 0 (53 + 6 * k) = nI t) (er : ∀ k, k < n' → μ' 0 (53 + 6 * k + 3) = 1 → ∃ r, r < 8 ∧ μ' 0 (53 + 6 * k + 4) = nI r) : okM μ' := by
  have n1 : mN μ' = n' := by unfold mN; rw [hn]; exact tn_nI (by omega)
  have n0 : mT μ' = mT μ := congrArg tn e0
  have n2 : mC μ' = mC μ := congrArg tn e2
  have ns : mS μ' = mS μ := congrArg tn es
  refine ⟨⟨by rw [e0, n0]; exact h.1.1, by rw [n0]; exact h.1.2⟩, ⟨by rw [e2, n2]; exact h.2.1.1, by rw [n2]; exact h.2.1.2⟩, ⟨by rw [n1]; exact hn, by rw [n1]; exact hb⟩, ⟨by rw [es, ns]; exact okM_s h, by rw [ns]; exact (okM_b h).2.2.2⟩, by rw [e6]; exact okM_6 h, fun k hk => ?_, fun k hk h1 => ?_⟩
  · rw [n1] at hk
    obtain ⟨t, ht, e⟩ := et k hk
    unfold mt
    rw [e, tn_nI (by omega)]
    exact ⟨rfl, ht⟩
  · rw [n1] at hk
    obtain ⟨t, ht, e⟩ := er k hk h1
    unfold mr
    rw [e, tn_nI (by omega)]
    exact ⟨rfl, ht⟩
theorem okM_rent3 {μ : Nat → Nat → Int32} (h : okM μ) {c cu : Nat} (hcu : cu < 8) (d : Int32) : okM (s_X4_sets (s_X4_sets (s_X4_sets μ c 3 1) c 4 (nI cu)) c 5 d) := by
  have hb := okM_b h
  refine okM_mk h (mN μ) (by rw [sets_ne (by omega), sets_ne (by omega), sets_ne (by omega)]) (by rw [sets_ne (by omega), sets_ne (by omega), sets_ne (by omega)]; exact (okM_1 h).1) hb.2.2.1 (by rw [sets_ne (by omega), sets_ne (by omega), sets_ne (by omega)]) (by rw [sets_ne (by omega), sets_ne (by omega), sets_ne (by omega)]) (by rw [sets_f (by decide), sets_f (by decide), sets_f (by decide)]) (fun k hk => ⟨mt μ k, (okM_t h hk).2, by rw [sets_ne (by omega), sets_ne (by omega), sets_ne (by omega)]; exact (okM_t h hk).1⟩) (fun k hk h1 => ?_)
  by_cases hc : k = c
  · subst hc
    exact ⟨cu, hcu, by rw [sets_ne (by omega), sets_at, if_pos rfl]⟩
  · rw [sets_ne (by omega), sets_ne (by omega), sets_ne (by omega)] at h1
    exact ⟨mr μ k, (okM_r h hk h1).2, by rw [sets_ne (by omega), sets_ne (by omega), sets_ne (by omega)]; exact (okM_r h hk h1).1⟩
theorem okM_set2 {μ : Nat → Nat → Int32} (h : okM μ) (c : Nat) (v : Int32) : okM (s_X4_sets μ c 2 v) := by
  have hb := okM_b h
  refine okM_mk h (mN μ) (sets_ne (by omega)) ((sets_ne (by omega)).trans (okM_1 h).1) hb.2.2.1 (sets_ne (by omega)) (sets_ne (by omega)) (by rw [sets_f (by decide)]) (fun k hk => ⟨mt μ k, (okM_t h hk).2, (sets_ne (by omega)).trans (okM_t h hk).1⟩) (fun k hk h1 => ?_)
  rw [sets_ne (by omega)] at h1
  exact ⟨mr μ k, (okM_r h hk h1).2, (sets_ne (by omega)).trans (okM_r h hk h1).1⟩
theorem okM_lo {μ : Nat → Nat → Int32} (h : okM μ) (j : Nat) (v : Int32) (hj : 7 ≤ j ∧ j < 53) : okM (shU μ 0 j v) := by
  have hb := okM_b h
  refine okM_mk h (mN μ) (shU_ne (by omega)) ((shU_ne (by omega)).trans (okM_1 h).1) hb.2.2.1 (shU_ne (by omega)) (shU_ne (by omega)) (by rw [shU_f (by decide)]) (fun k hk => ⟨mt μ k, (okM_t h hk).2, (shU_ne (by omega)).trans (okM_t h hk).1⟩) (fun k hk h1 => ?_)
  rw [shU_ne (by omega)] at h1
  exact ⟨mr μ k, (okM_r h hk h1).2, (shU_ne (by omega)).trans (okM_r h hk h1).1⟩
theorem comes_at {μ : Nat → Nat → Int32} {x y z : Int32} {j : Nat} (hj : j ≠ 1) : s_X4_comes μ x y z 0 j = if j = 53 + 6 * tn (μ 0 1) + 5 then (-1) else if j = 53 + 6 * tn (μ 0 1) + 4 then (-1) else if j = 53 + 6 * tn (μ 0 1) + 3 then 0 else if j = 53 + 6 * tn (μ 0 1) + 2 then z else if j = 53 + 6 * tn (μ 0 1) + 1 then y else if j = 53 + 6 * tn (μ 0 1) + 0 then x else μ 0 j := by
  unfold s_X4_comes
  rw [shU_ne hj, sets_at, sets_at, sets_at, sets_at, sets_at, sets_at]
theorem comes_lo {μ : Nat → Nat → Int32} {x y z : Int32} {j : Nat} (hj : j ≠ 1) (h2 : j < 53 + 6 * tn (μ 0 1)) : s_X4_comes μ x y z 0 j = μ 0 j := by
  rw [comes_at hj, if_neg (by omega), if_neg (by omega), if_neg (by omega), if_neg (by omega), if_neg (by omega), if_neg (by omega)]
theorem comes_f {μ : Nat → Nat → Int32} {x y z : Int32} {f : Nat} (hf : f ≠ 0) : s_X4_comes μ x y z f = μ f := by
  unfold s_X4_comes
  rw [shU_f hf, sets_f hf, sets_f hf, sets_f hf, sets_f hf, sets_f hf, sets_f hf]
theorem comes_ok {μ : Nat → Nat → Int32} (h : okM μ) {t : Nat} {y z : Int32} (ht : t < 6) (hn : mN μ < 60) : okM (s_X4_comes μ (nI t) y z) ∧ mN (s_X4_comes μ (nI t) y z) = mN μ + 1 := by
  have hb := okM_b h
  have e1 : s_X4_comes μ (nI t) y z 0 1 = nI (mN μ + 1) := by rw [comes_1, (okM_1 h).1, nI_1]
  refine ⟨okM_mk h (mN μ + 1) (comes_lo (by decide) (by omega)) e1 (by omega) (comes_lo (by decide) (by omega)) (comes_lo (by decide) (by omega)) (by rw [comes_f (by decide)]) (fun k hk => ?_) (fun k hk h1 => ?_), by unfold mN; rw [e1]; exact tn_nI (by omega)⟩
  · by_cases hk2 : k = mN μ
    · exact ⟨t, ht, by rw [comes_at (by omega), hk2]; unfold mN; rw [if_neg (by omega), if_neg (by omega), if_neg (by omega), if_neg (by omega), if_neg (by omega), if_pos (by omega)]⟩
    · have hk3 : k < mN μ := by omega
      exact ⟨mt μ k, (okM_t h hk3).2, by rw [comes_lo (by omega) (by unfold mN at hk3; omega)]; exact (okM_t h hk3).1⟩
  · by_cases hk2 : k = mN μ
    · rw [comes_at (by omega), hk2] at h1
      unfold mN at h1
      rw [if_neg (by omega), if_neg (by omega), if_pos rfl] at h1
      exact absurd h1 (by decide)
    · have hk3 : k < mN μ := by omega
      rw [comes_lo (by omega) (by unfold mN at hk3; omega)] at h1
      exact ⟨mr μ k, (okM_r h hk3 h1).2, by rw [comes_lo (by omega) (by unfold mN at hk3; omega)]; exact (okM_r h hk3 h1).1⟩
theorem rents_ok {μ : Nat → Nat → Int32} (h : okM μ) {cu jc : Nat} (hcu : cu < 8) : okM (m_X4_rents μ cu jc).2 := okM_rent3 (charges_ok h hcu (by decide)) hcu _
theorem rents_f {μ : Nat → Nat → Int32} {cu jc f : Nat} (hf : f ≠ 0) : (m_X4_rents μ cu jc).2 f = μ f := by
  unfold m_X4_rents
  dsimp only
  rw [sets_f hf, sets_f hf, sets_f hf, charges_f hf]
theorem gives_ok {μ : Nat → Nat → Int32} (h : okM μ) {k : Nat} {y : Int32} (hk : k < mN μ) (h1 : μ 0 (53 + 6 * k + 3) = 1) : okM (m_X4_gives μ k y).2 := by
  have hr := (okM_r h hk h1).2
  unfold m_X4_gives
  split
  · exact goes_ok (okM_set2 (charges_ok (charges_ok h hr (by decide)) hr (by decide)) _ _) (by decide)
  · exact goes_ok (okM_set2 (charges_ok (charges_ok h hr (by decide)) hr (by decide)) _ _) (by decide)
theorem gives_f {μ : Nat → Nat → Int32} {k f : Nat} {y : Int32} (hf : f ≠ 0) : (m_X4_gives μ k y).2 f = μ f := by
  unfold m_X4_gives
  split <;> (dsimp only; rw [goes_f hf, sets_f hf, charges_f hf, charges_f hf])
theorem sells_ok {μ : Nat → Nat → Int32} (h : okM μ) (k : Nat) : okM (m_X4_sells μ k).2 := okM_lo (goes_ok h (by decide)) 12 _ (by omega)
theorem sells_f {μ : Nat → Nat → Int32} {k f : Nat} (hf : f ≠ 0) : (m_X4_sells μ k).2 f = μ f := by
  unfold m_X4_sells
  dsimp only
  rw [shU_f hf, goes_f hf]
theorem buys_g {μ : Nat → Nat → Int32} {t q : Nat} (ht : t < 6) : ∀ (fu k : Nat) (ω : Nat → Nat → Int32), okM ω → mN ω + (q - k) ≤ 60 → okM (g_X4_buys_10 μ t q fu k ω) := by
  intro fu
  induction fu with
  | zero => intro k ω h _; exact h
  | succ fu ih =>
    intro k ω h hn
    rw [g_X4_buys_10]
    split
    · exact h
    · have hc := comes_ok h (t := t) (y := f_X4_current ω t) (z := 0) ht (by omega)
      exact ih _ _ hc.1 (by rw [hc.2]; omega)
theorem buys_gf {μ : Nat → Nat → Int32} {t q f : Nat} (hf : f ≠ 0) : ∀ (fu k : Nat) (ω : Nat → Nat → Int32), g_X4_buys_10 μ t q fu k ω f = ω f := by
  intro fu
  induction fu with
  | zero => intro k ω; rfl
  | succ fu ih =>
    intro k ω
    rw [g_X4_buys_10]
    split
    · rfl
    · rw [ih, comes_f hf]
theorem buys_ok {μ : Nat → Nat → Int32} (h : okM μ) {t q : Nat} (ht : t < 6) (hq : mN μ + q ≤ 60) : okM (m_X4_buys μ t q).2 := okM_lo (buys_g ht _ _ _ h (by omega)) 13 _ (by omega)
theorem buys_f {μ : Nat → Nat → Int32} {t q f : Nat} (hf : f ≠ 0) : (m_X4_buys μ t q).2 f = μ f := by
  unfold m_X4_buys
  dsimp only
  rw [shU_f hf, buys_gf hf]
theorem passes_g {μ : Nat → Nat → Int32} {x : Int32} : ∀ (fu k : Nat) (z : Int32) (ω : Nat → Nat → Int32), okM ω → okM (g_X4_passes_14 μ x fu k z ω).2 := by
  intro fu
  induction fu with
  | zero => intro k z ω h; exact h
  | succ fu ih =>
    intro k z ω h
    rw [g_X4_passes_14]
    split
    · exact h
    · split
      · exact ih _ _ _ h
      · rename_i h1 h2
        have hr := (okM_r h (k := k) (by omega) (late_1 (okM_6 h) h2)).2
        exact ih _ _ _ (goes_ok (charges_ok h hr (by decide)) (by decide))
theorem passes_gf {μ : Nat → Nat → Int32} {x : Int32} {f : Nat} (hf : f ≠ 0) : ∀ (fu k : Nat) (z : Int32) (ω : Nat → Nat → Int32), (g_X4_passes_14 μ x fu k z ω).2 f = ω f := by
  intro fu
  induction fu with
  | zero => intro k z ω; rfl
  | succ fu ih =>
    intro k z ω
    rw [g_X4_passes_14]
    split
    · rfl
    · split
      · exact ih _ _ _
      · rw [ih, goes_f hf, charges_f hf]
theorem passes_ok {μ : Nat → Nat → Int32} (h : okM μ) (x : Int32) : okM (m_X4_passes μ x).2 := passes_g _ _ _ _ (day_ok h _)
theorem passes_f {μ : Nat → Nat → Int32} {x : Int32} {f : Nat} (hf : f ≠ 0) : (m_X4_passes μ x).2 f = μ f := by
  unfold m_X4_passes
  dsimp only
  rw [passes_gf hf, shU_f hf]

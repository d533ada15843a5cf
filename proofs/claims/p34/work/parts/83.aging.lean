/-! ===== a next edition takes what was told ===== -/
section AGING
variable {σ : ST}
def wF (σ : ST) (k : Nat) : Int32 := if f_X2_copyProperty σ (nI k) 3 = 2 then 0 else if f_X2_copyProperty σ (nI k) 3 = 3 then 0 else f_X2_copyProperty σ (nI k) 6
theorem w_457 (σ : ST) : g_L_law_457 σ (nN σ + 1) 0 0 = sI (wF σ) (nN σ) := by
  refine lpz_0 (G := g_L_law_457 σ) (f := wF σ) (fun fu k a => ?_)
  rw [g_L_law_457]
  rfl
theorem w_552 (σ : ST) (x : Int32) : g_L_law_552 σ (nN σ + 1) 0 x = x + sI (fun k => - wF σ k) (nN σ) := by
  have h := lpz_s (G := g_L_law_552 σ) (n := nN σ) (f := fun k => - wF σ k) (fun fu k a => by
    rw [g_L_law_552, ← Int32.sub_eq_add_neg]
    rfl) (nN σ + 1) 0 x (Nat.zero_le _) (by omega)
  have e : sI (fun k => - wF σ k) 0 = 0 := rfl
  rw [e, Int32.add_zero] at h
  exact h
theorem wF_v (h : okS σ) {k : Nat} (hk : k < nN σ) : wF σ k = if σ 13 k = 2 then 0 else if σ 13 k = 3 then 0 else f_X2_worthOf σ k := by
  unfold wF
  rw [cp3 h hk, cp6 h hk]
def aF (σ : ST) (t : Nat) (k : Nat) : Int32 := if σ 10 k = nI t then (if f_X2_isOwned σ k = 0 then 0 else f_X2_worthOf σ k - f_X2_worthBy σ t (σ 6 t + 1) (σ 11 k) (σ 12 k)) else 0
theorem aging_s {t : Nat} (ht : tn (nI t) = t) : g_X2_agingBy_32 σ (nI t) (nN σ + 1) 0 0 = sI (aF σ t) (nN σ) := by
  refine lpz_0 (G := g_X2_agingBy_32 σ (nI t)) (f := aF σ t) (fun fu k a => ?_)
  rw [g_X2_agingBy_32, ht]
  unfold aF
  by_cases c : σ 10 k = nI t
  · by_cases d : f_X2_isOwned σ k = 0
    · simp [c, d]
    · simp [c, d]
  · simp [c]
theorem sI_b {f : Nat → Int32} {m : Int} (hm : 0 ≤ m) (hm2 : m ≤ 1000000) : ∀ {n : Nat}, n ≤ 60 → (∀ k, k < n → bnd (f k) 0 m) → bnd (sI f n) 0 (m * n)
  | 0, _, _ => ⟨Int.le_refl _, by show (0 : Int32).toInt ≤ m * 0; rw [Int.mul_zero]; exact Int.le_refl _⟩
  | n + 1, hn, h => by
    have h1 := sI_b (f := f) hm hm2 (n := n) (by omega) (fun k hk => h k (by omega))
    have h2 := h n (by omega)
    have e : m * (n : Int) ≤ 1000000 * 60 := Int.mul_le_mul hm2 (by omega) (by omega) (by decide)
    have b := b_add h1 h2
    show bnd (sI f n + f n) 0 (m * ((n + 1 : Nat) : Int))
    have e2 : m * ((n + 1 : Nat) : Int) = m * n + m := by rw [Int.natCast_add, Int.mul_add]; simp
    rw [e2]
    exact bnd_w b (by omega) (by omega)
theorem b_ed31 (h : bq σ) {t : Nat} (ht : t < 6) (c : σ 6 t < 30) : bnd (σ 6 t + 1) 0 31 ∧ (σ 6 t + 1).toInt = (σ 6 t).toInt + 1 := by
  have b := rl_b6 h ht
  have o : (1 : Int32).toInt = 1 := by decide
  have b0 := b.1
  have b1 := b.2
  have e := i_add (a := σ 6 t) (b := 1) (by omega) (by omega) (by omega) (by omega)
  rw [o] at e
  exact ⟨bnd_w (b_ed1 b c) (by decide) (by decide), e⟩
theorem aF_b (h : bq σ) {t k : Nat} (ht : t < nT σ) (hk : k < nN σ) (c : σ 6 t < 30) : bnd (aF σ t k) 0 20000 := by
  unfold aF
  by_cases d : σ 10 k = nI t
  · rw [if_pos d]
    by_cases e : f_X2_isOwned σ k = 0
    · rw [if_pos e]; exact ⟨by decide, by decide⟩
    · rw [if_neg e]
      have t6 := rl_6t h ht
      have et : tOf σ k = t := by unfold tOf; rw [d, tn_nI (by omega)]
      obtain ⟨b31, e31⟩ := b_ed31 h t6 c
      have bw := b_worth h hk
      have bt := (e_wq h (t := t) (c := σ 6 t + 1) b31 (rl_b11 h (rl_60 h hk)) (rl_b12 h k)).2
      have m := worth_mono h (t := t) (c := σ 6 t + 1) (c' := σ 6 t) (y := σ 11 k) (y' := σ 11 k) (z := σ 12 k) (z' := σ 12 k) b31 (bnd_w (rl_b6 h t6) (by decide) (by decide)) (rl_b11 h (rl_60 h hk)) (rl_b11 h (rl_60 h hk)) (rl_b12 h k) (rl_b12 h k) (by omega) (Int.le_refl _) (Int.le_refl _)
      have ew : f_X2_worthOf σ k = f_X2_worthBy σ t (σ 6 t) (σ 11 k) (σ 12 k) := by unfold f_X2_worthOf; rw [et]
      have s := b_sub bw bt
      rw [ew] at s bw ⊢
      have := bw.2
      have := bt.1
      exact ⟨by rw [s]; omega, by rw [s]; omega⟩
  · rw [if_neg d]; exact ⟨by decide, by decide⟩
theorem aging_b (h : bq σ) {t : Nat} (ht : t < nT σ) (c : σ 6 t < 30) : bnd (sI (aF σ t) (nN σ)) 0 1200000 := by
  have b := sI_b (f := aF σ t) (m := 20000) (by decide) (by decide) (n := nN σ) (okS_b h.1).2.2 (fun k hk => aF_b h ht hk c)
  have := (okS_b h.1).2.2
  exact bnd_w b (Int.le_refl _) (by omega)
theorem aging_cases (h : bq σ) {t : Nat} (ht : t < nT σ) : (f_X2_agingBy σ (nI t) = (-5) ∧ m_X2_advanceEdition σ (nI t) = (-5, σ)) ∨ (σ 6 t < 30 ∧ f_X2_agingBy σ (nI t) = sI (aF σ t) (nN σ) ∧ m_X2_advanceEdition σ (nI t) = (σ 6 t + 1, shU σ 6 t (σ 6 t + 1))) := by
  have et := tnT h.1 ht
  by_cases c : σ 6 t < 30
  · refine Or.inr ⟨c, ?_, ?_⟩
    · unfold f_X2_agingBy; rw [if_neg (htt h.1 ht), et, if_pos c, aging_s et]
    · unfold m_X2_advanceEdition; rw [if_neg (htt h.1 ht), et, if_pos c]
  · refine Or.inl ⟨?_, ?_⟩
    · unfold f_X2_agingBy; rw [if_neg (htt h.1 ht), et, if_neg c]
    · unfold m_X2_advanceEdition; rw [if_neg (htt h.1 ht), et, if_neg c]
theorem adv_worth (h : bq σ) {t k : Nat} (ht : t < nT σ) (hk : k < nN σ) (ok2 : okS (shU σ 6 t (σ 6 t + 1))) : wF σ k + -(wF (shU σ 6 t (σ 6 t + 1)) k) = aF σ t k := by
  have hk2 : k < nN (shU σ 6 t (σ 6 t + 1)) := hk
  have ht6 := (okS_t h.1 hk).2
  rw [wF_v h.1 hk, wF_v ok2 hk2]
  have e13 : (shU σ 6 t (σ 6 t + 1)) 13 = σ 13 := rfl
  rw [e13]
  have o := ow2 (σ := σ) (k := k) (rl_b13 h (rl_60 h hk))
  have no : f_X2_isOwned σ k = 0 → aF σ t k = 0 := fun q => by
    unfold aF
    by_cases d : σ 10 k = nI t
    · rw [if_pos d, if_pos q]
    · rw [if_neg d]
  by_cases c2 : σ 13 k = 2
  · rw [if_pos c2, if_pos c2, no (by rw [o]; exact fun q => q.1 c2)]; decide
  by_cases c3 : σ 13 k = 3
  · rw [if_neg c2, if_neg c2, if_pos c3, if_pos c3, no (by rw [o]; exact fun q => q.2 c3)]; decide
  have ow : ¬ f_X2_isOwned σ k = 0 := by rw [o]; exact fun q => q ⟨c2, c3⟩
  rw [if_neg c2, if_neg c2, if_neg c3, if_neg c3]
  have ew : f_X2_worthOf (shU σ 6 t (σ 6 t + 1)) k = f_X2_worthBy σ (tOf σ k) (if tOf σ k = t then σ 6 t + 1 else σ 6 (tOf σ k)) (σ 11 k) (σ 12 k) := by
    have e6 : (shU σ 6 t (σ 6 t + 1)) 6 (tOf σ k) = if tOf σ k = t then σ 6 t + 1 else σ 6 (tOf σ k) := shU_at
    rw [← e6]
    rfl
  rw [ew]
  unfold aF
  by_cases d : tOf σ k = t
  · have d2 : σ 10 k = nI t := by rw [(okS_t h.1 hk).1, d]
    rw [if_pos d2, if_neg ow, if_pos d, d, Int32.sub_eq_add_neg]
  · have d2 : ¬ σ 10 k = nI t := fun q => d (by
      rw [(okS_t h.1 hk).1] at q
      have := rl_6t h ht
      exact (nI_eq (by omega) (by omega)).mp q)
    rw [if_neg d2, if_neg d]
    exact Int32.add_right_neg _
theorem aging_v (h : INV σ) {t : Nat} (ht : t < nT σ) (q : ¬ f_X2_agingBy σ (nI t) = (-5)) : ¬ f_X2_agingBy σ (nI t) < 0 ∧ 2 ≤ (m_X2_advanceEdition σ (nI t)).1 ∧
    g_L_law_552 (m_X2_advanceEdition σ (nI t)).2 (nN (m_X2_advanceEdition σ (nI t)).2 + 1) 0 (g_L_law_457 σ (nN σ + 1) 0 0) = f_X2_agingBy σ (nI t) ∧ ¬ (m_X2_advanceEdition σ (nI t)).1 < 0 := by
  have hq := iv_q h
  have ok2 := advanceEdition_ok hq.1 (nI t)
  rcases aging_cases hq ht with ⟨e, _⟩ | ⟨c, e1, e2⟩
  · exact absurd e q
  · have ba := aging_b hq ht c
    have l2 : (2 : Int32).toInt = 2 := by decide
    obtain ⟨b31, e31⟩ := b_ed31 hq (rl_6t hq ht) c
    have c1 := iv_6 h ht
    rw [e2] at ok2 ⊢
    have ok2 : okS (shU σ 6 t (σ 6 t + 1)) := ok2
    rw [e1]
    refine ⟨Int32.not_lt.mpr (b_nn ba (by decide)), ?_, ?_, Int32.not_lt.mpr (b_nn b31 (by decide))⟩
    · show 2 ≤ σ 6 t + 1
      rw [Int32.le_iff_toInt_le, e31, l2]
      omega
    · show g_L_law_552 (shU σ 6 t (σ 6 t + 1)) (nN (shU σ 6 t (σ 6 t + 1)) + 1) 0 (g_L_law_457 σ (nN σ + 1) 0 0) = sI (aF σ t) (nN σ)
      have en : nN (shU σ 6 t (σ 6 t + 1)) = nN σ := rfl
      rw [w_552, w_457, en, ← sI_add]
      exact sI_congr (fun k hk => adv_worth hq ht hk ok2)
end AGING

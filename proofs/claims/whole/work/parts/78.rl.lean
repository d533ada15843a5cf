/-! ===== the shelf and the aging, the same of both ===== -/
/-- how many of the first n copies are of a title and in a state -/
def cN (σ : Nat → Nat → Int32) (x v : Int32) : Nat → Nat
  | 0 => 0
  | k + 1 => cN σ x v k + (if σ 10 k = x ∧ σ 13 k = v then 1 else 0)
section OPE
variable {σ : Nat → Nat → Int32} {μ S : Nat → Nat → Int32}
theorem cN_b (x v : Int32) : ∀ n, cN σ x v n ≤ n := by
  intro n
  induction n with
  | zero => exact Nat.le_refl _
  | succ n ih =>
    rw [cN]
    split <;> omega
theorem cN_no {x v : Int32} {k : Nat} (h : ¬ (σ 10 k = x ∧ σ 13 k = v)) : cN σ x v (k + 1) = cN σ x v k := by rw [cN, if_neg h, Nat.add_zero]
theorem cN_yes {x v : Int32} {k : Nat} (h1 : σ 10 k = x) (h2 : σ 13 k = v) : cN σ x v (k + 1) = cN σ x v k + 1 := by rw [cN, if_pos ⟨h1, h2⟩]
theorem cN_le {x u v : Int32} {j : Nat} : ∀ k, k ≤ j → cN (shU σ 13 j v) x u k = cN σ x u k := by
  intro k
  induction k with
  | zero => intro _; rfl
  | succ k ih =>
    intro hk
    rw [cN, cN, ih (by omega), shU_f (f' := 10) (by decide), shU_ne (by omega)]
theorem cN_up {x : Int32} {j : Nat} (h10 : σ 10 j = x) (h13 : σ 13 j ≠ 4) : ∀ n, j < n → cN (shU σ 13 j 4) x 4 n = cN σ x 4 n + 1 := by
  intro n
  induction n with
  | zero => intro q; omega
  | succ n ih =>
    intro q
    by_cases c : j = n
    · subst c
      rw [cN, cN, cN_le j (Nat.le_refl _), shU_f (f' := 10) (by decide), shU_eq, if_pos ⟨h10, rfl⟩, if_neg (fun z => h13 z.2)]
    · rw [cN, cN, ih (by omega), shU_f (f' := 10) (by decide), shU_ne (by omega)]
      omega
theorem cN_dn {x : Int32} {j : Nat} (h10 : σ 10 j = x) (h13 : σ 13 j = 4) : ∀ n, j < n → cN (shU σ 13 j 0) x 4 n + 1 = cN σ x 4 n := by
  intro n
  induction n with
  | zero => intro q; omega
  | succ n ih =>
    intro q
    by_cases c : j = n
    · subst c
      rw [cN, cN, cN_le j (Nat.le_refl _), shU_f (f' := 10) (by decide), shU_eq, if_neg (fun z => absurd z.2 (by decide)), if_pos ⟨h10, h13⟩]
    · have := ih (by omega)
      rw [cN, cN, shU_f (f' := 10) (by decide), shU_ne (by omega)]
      omega
theorem ofIn_n (x v : Int32) : f_X2_copiesOfIn σ x v = nI (cN σ x v (nN σ)) := by
  have g : ∀ (fu k : Nat), nN σ - k < fu → k ≤ nN σ → g_X2_copiesOfIn_5 σ x v fu k (nI (cN σ x v k)) = nI (cN σ x v (nN σ)) := by
    intro fu
    induction fu with
    | zero => intro k q; omega
    | succ fu ih =>
      intro k q hk
      rw [g_X2_copiesOfIn_5]
      by_cases c : nN σ ≤ k
      · rw [if_pos c, show k = nN σ by omega]
      · rw [if_neg c]
        have i := ih (k + 1) (by omega) (by omega)
        by_cases d : σ 10 k = x
        · by_cases e : σ 13 k = v
          · rw [if_pos d, if_pos e, nI_1, ← cN_yes d e]; exact i
          · rw [if_pos d, if_neg e, ← cN_no (k := k) (fun z => e z.2)]; exact i
        · rw [if_neg d, ← cN_no (k := k) (fun z => d z.1)]; exact i
  exact g (nN σ + 1) 0 (by omega) (by omega)
theorem rl_13 (h : rl σ (S 0)) {k : Nat} (hk : k < nN σ) {v : Int32} (hv : v ≠ 1) (h1 : σ 13 k ≠ 1) (hb : bnd v 0 4) : rl (shU σ 13 k v) (s_X4_sets S k 3 v 0) := by
  unfold s_X4_sets
  rw [u0]
  exact ⟨okS_of h.1 rfl rfl rfl rfl rfl (fun _ q => shU_13 (σ := σ) hv q), rq_13 (rl_q h) (rl_60 h hk) hv h1 hb⟩
theorem lose_id {σ0 : Nat → Nat → Int32} {x y z : Int32} (hz : z ≤ 0) : ∀ (fu k : Nat), g_X2_loseSight_10 σ0 x y fu k z σ = σ := by
  intro fu k
  cases fu with
  | zero => rfl
  | succ fu => rw [g_X2_loseSight_10, if_pos hz, ite_self]
theorem find_id {σ0 : Nat → Nat → Int32} {x y z : Int32} (hz : z ≤ 0) : ∀ (fu k : Nat), g_X2_findAgain_5 σ0 x y fu k z σ = σ := by
  intro fu k
  cases fu with
  | zero => rfl
  | succ fu => rw [g_X2_findAgain_5, if_pos hz, ite_self]
theorem lose_idM {μ0 : Nat → Nat → Int32} {x y z : Int32} (hz : z ≤ 0) : ∀ (fu k : Nat), g_X4_shelf_61 μ0 x y fu k z S = (z, S) := by
  intro fu
  induction fu with
  | zero => intro k; rfl
  | succ fu ih => intro k; rw [g_X4_shelf_61, if_pos hz, ih, ite_self]
theorem find_idM {μ0 : Nat → Nat → Int32} {x y z : Int32} (hz : 0 ≤ z) : ∀ (fu k : Nat), g_X4_shelf_111 μ0 x y fu k z S = S := by
  intro fu
  induction fu with
  | zero => intro k; rfl
  | succ fu ih => intro k; rw [g_X4_shelf_111, if_pos hz, ih, ite_self]
theorem lose_2 {σ0 μ0 : Nat → Nat → Int32} {x y y' : Int32} {N : Nat} (hN : N ≤ 60) : ∀ (fu k l : Nat) (ω Ω : Nat → Nat → Int32), k < fu → k ≤ N → nN ω = N → l ≤ cN ω x 0 k → rl ω (Ω 0) →
    rl (g_X2_loseSight_10 σ0 x y fu k (nI l) ω) ((g_X4_shelf_61 μ0 x y' fu k (nI l) Ω).2 0) ∧ fr Ω (g_X4_shelf_61 μ0 x y' fu k (nI l) Ω).2 ∧ (g_X4_shelf_61 μ0 x y' fu k (nI l) Ω).1 = 0 ∧ nN (g_X2_loseSight_10 σ0 x y fu k (nI l) ω) = N ∧ cN (g_X2_loseSight_10 σ0 x y fu k (nI l) ω) x 4 N = cN ω x 4 N + l := by
  intro fu
  induction fu with
  | zero => intro k l ω Ω q; omega
  | succ fu ih =>
    intro k l ω Ω hf hk hn hl h
    by_cases l0 : l = 0
    · subst l0
      have z : nI 0 ≤ 0 := by decide
      rw [lose_id z, lose_idM z]
      exact ⟨h, fr_r, rfl, hn, rfl⟩
    · have k0 : k ≠ 0 := by
        intro e
        rw [e] at hl
        exact l0 (Nat.le_zero.mp hl)
      have lb := Nat.le_trans hl (cN_b x 0 k)
      have z : ¬ nI l ≤ 0 := nI_nle (by omega) (by omega)
      obtain ⟨j, rfl⟩ : ∃ j, k = j + 1 := ⟨k - 1, by omega⟩
      obtain ⟨i, rfl⟩ : ∃ i, l = i + 1 := ⟨l - 1, by omega⟩
      have j6 : j < 60 := by omega
      rw [g_X2_loseSight_10, g_X4_shelf_61, if_neg k0, if_neg k0, if_neg z, if_neg z, Nat.add_sub_cancel, nI_pred]
      simp only [rl_o0 h j6, rl_is h j6, ite_not]
      by_cases d : ω 10 j = x
      · by_cases e : ω 13 j = 0
        · rw [if_pos d, if_pos d, if_pos e, if_pos e]
          rw [cN_yes d e] at hl
          obtain ⟨i1, i2, i3, i4, i5⟩ := ih j i (shU ω 13 j 4) (s_X4_sets Ω j 3 4) (by omega) (by omega) hn (by rw [cN_le j (Nat.le_refl _)]; omega) (rl_13 h (by omega) (by decide) (by rw [e]; decide) ⟨by decide, by decide⟩)
          refine ⟨i1, fr_t (fr_w fr_r (by omega) _) i2, i3, i4, ?_⟩
          rw [i5, cN_up d (by rw [e]; decide) N (by omega)]
          omega
        · rw [if_pos d, if_pos d, if_neg e, if_neg e]
          rw [cN_no (fun z => e z.2)] at hl
          exact ih j (i + 1) ω Ω (by omega) (by omega) hn hl h
      · rw [if_neg d, if_neg d]
        rw [cN_no (fun z => d z.1)] at hl
        exact ih j (i + 1) ω Ω (by omega) (by omega) hn hl h
theorem find_2 {σ0 μ0 : Nat → Nat → Int32} {x y y' : Int32} {N : Nat} (hN : N ≤ 60) (hs : nN σ0 = N) (hm : mN μ0 = N) : ∀ (fu k l : Nat) (z : Int32) (ω Ω : Nat → Nat → Int32), N - k < fu → k ≤ N → nN ω = N → z.toInt = -(l : Int) → cN ω x 4 k + l ≤ cN ω x 4 N → rl ω (Ω 0) →
    rl (g_X2_findAgain_5 σ0 x y fu k (nI l) ω) (g_X4_shelf_111 μ0 x y' fu k z Ω 0) ∧ fr Ω (g_X4_shelf_111 μ0 x y' fu k z Ω) ∧ nN (g_X2_findAgain_5 σ0 x y fu k (nI l) ω) = N ∧ cN (g_X2_findAgain_5 σ0 x y fu k (nI l) ω) x 4 N + l = cN ω x 4 N := by
  have z0 : (0 : Int32).toInt = 0 := by decide
  have o1 : (1 : Int32).toInt = 1 := by decide
  intro fu
  induction fu with
  | zero => intro k l z ω Ω q; omega
  | succ fu ih =>
    intro k l z ω Ω hf hk hn hz hl h
    have lb := Nat.le_trans (Nat.le_trans (Nat.le_add_left _ _) hl) (cN_b x 4 N)
    by_cases l0 : l = 0
    · subst l0
      have q : nI 0 ≤ 0 := by decide
      have q2 : 0 ≤ z := by rw [Int32.le_iff_toInt_le, hz, z0]; decide
      rw [find_id q, find_idM q2]
      exact ⟨h, fr_r, hn, rfl⟩
    · have kN : k < N := by
        rcases Nat.lt_or_ge k N with q | q
        · exact q
        · have e : k = N := by omega
          rw [e] at hl; omega
      have q : ¬ nI l ≤ 0 := nI_nle (by omega) (by omega)
      have q2 : ¬ 0 ≤ z := by rw [Int32.le_iff_toInt_le, hz, z0]; omega
      obtain ⟨i, rfl⟩ : ∃ i, l = i + 1 := ⟨l - 1, by omega⟩
      have j6 : k < 60 := by omega
      rw [g_X2_findAgain_5, g_X4_shelf_111, hs, hm, if_neg (show ¬ N ≤ k by omega), if_neg (show ¬ N ≤ k by omega), if_neg q, if_neg q2, nI_pred]
      simp only [rl_o0 h j6, rl_is h j6, ite_not]
      by_cases d : ω 10 k = x
      · by_cases e : ω 13 k = 4
        · rw [if_pos d, if_pos d, if_pos e, if_pos e]
          have e1 : cN (shU ω 13 k 0) x 4 (k + 1) = cN ω x 4 k := by
            rw [cN_no (fun z => absurd (z.2.symm.trans shU_eq) (by decide)), cN_le k (Nat.le_refl _)]
          have e2 := cN_dn (σ := ω) d e N kN
          obtain ⟨i1, i2, i4, i5⟩ := ih (k + 1) i (z + 1) (shU ω 13 k 0) (s_X4_sets Ω k 3 0) (by omega) (by omega) hn (by rw [i_add (by omega) (by omega) (by omega) (by omega), hz, o1]; omega) (by rw [e1]; omega) (rl_13 h (by omega) (by decide) (by rw [e]; decide) ⟨by decide, by decide⟩)
          exact ⟨i1, fr_t (fr_w fr_r (by omega) _) i2, i4, by omega⟩
        · rw [if_pos d, if_pos d, if_neg e, if_neg e]
          exact ih (k + 1) (i + 1) z ω Ω (by omega) (by omega) hn hz (by rw [cN_no (fun z => e z.2)]; exact hl) h
      · rw [if_neg d, if_neg d]
        exact ih (k + 1) (i + 1) z ω Ω (by omega) (by omega) hn hz (by rw [cN_no (fun z => d z.1)]; exact hl) h
theorem r_shelf (h : rl σ (μ 0)) (hok : okM μ) (x y : Int32) : recd σ μ (m_X2_countShelf σ x y) (m_X4_shelf μ x y) := by
  unfold m_X2_countShelf m_X4_shelf
  rw [e_isT h, e_in]
  by_cases c : f_X2_hasTitle σ x = 0
  · rw [if_pos c, if_pos c]; exact Or.inl ⟨m2.2, rfl, rfl⟩
  rw [if_neg c, if_neg c]
  by_cases d : f_X2_isBetween y 0 60 = 0
  · rw [if_pos d, if_pos d]; exact Or.inl ⟨m3.2, rfl, rfl⟩
  rw [if_neg d, if_neg d]
  obtain ⟨y1, y2⟩ := btwN 60 d (by decide) rfl (by decide)
  rw [q_ofTitle h x 0 (by decide), q_ofTitle h x 4 (by decide), ofIn_n, ofIn_n, rl_N h]
  have hS := rl_saves h hok
  have hN := (okS_b h.1).2.2
  have s6 := Nat.le_trans (cN_b (σ := σ) x 0 (nN σ)) hN
  have m6 := Nat.le_trans (cN_b (σ := σ) x 4 (nN σ)) hN
  rw [rl_N hS]
  unfold s_X2_findAgain s_X2_loseSight
  generalize hs : cN σ x 0 (nN σ) = s at *
  generalize hm : cN σ x 4 (nN σ) = m at *
  generalize hn : tn y = n at *
  rw [y2]
  have ts : (nI s).toInt = s := nI_toInt (by omega)
  have tm : (nI m).toInt = m := nI_toInt (by omega)
  have ty : (nI n).toInt = n := nI_toInt (by omega)
  have tsn := i_sub (a := nI s) (b := nI n) (by omega) (by omega) (by omega) (by omega)
  have tns := i_sub (a := nI n) (b := nI s) (by omega) (by omega) (by omega) (by omega)
  have z0 : (0 : Int32).toInt = 0 := by decide
  have e1 : (nI n ≤ nI s + nI m) = (n ≤ s + m) := by
    rw [nI_add]; exact propext (nI_leI (by omega) (by omega))
  have e2 : (-(nI s - nI n) ≤ nI m) = (n ≤ s + m) := by
    have tn : (-(nI s - nI n)).toInt = -(nI s - nI n).toInt := by
      rw [Int32.toInt_neg]; exact Int.bmod_eq_of_le (by omega) (by omega)
    rw [Int32.le_iff_toInt_le, tn, tsn, tm, ts, ty]
    exact propext ⟨fun q => by omega, fun q => by omega⟩
  simp only [e1, e2]
  by_cases f : n ≤ s + m
  rotate_left
  · rw [if_neg f, if_neg f]; exact Or.inl ⟨m4.2, rfl, rfl⟩
  rw [if_pos f, if_pos f]
  have av : nI s + nI m - nI n = nI (s + m - n) := by rw [nI_add, pk_sub f]
  by_cases g : n ≤ s
  · have eA : nI s - nI n = nI (s - n) := pk_sub g
    have eB : nI n - nI s ≤ 0 := by rw [Int32.le_iff_toInt_le, tns]; omega
    obtain ⟨i1, i2, i3, i4, i5⟩ := lose_2 (σ0 := σ) (μ0 := μ) (x := x) (y := nI (s - n)) (y' := nI n) hN (nN σ + 1) (nN σ) (s - n) σ (s_X4_saves μ) (by omega) (Nat.le_refl _) rfl (by omega) hS
    have h3 : (0 : Int32) ≤ (g_X4_shelf_61 μ x (nI n) (nN σ + 1) (nN σ) (nI (s - n)) (s_X4_saves μ)).1 := by rw [i3]; decide
    rw [eA, find_id eB, find_idM h3]
    refine Or.inr ⟨?_, ?_, i1, i2⟩
    · show 0 ≤ nI s + nI m - nI n
      rw [av]; exact nI_pos' (by omega)
    · show f_X4_ofTitle (g_X4_shelf_61 μ x (nI n) (nN σ + 1) (nN σ) (nI (s - n)) (s_X4_saves μ)).2 x 4 = nI s + nI m - nI n
      rw [q_ofTitle i1 x 4 (by decide), ofIn_n, i4, i5, av, hm]
      congr 1
      omega
  · have eA : nI s - nI n ≤ 0 := by rw [Int32.le_iff_toInt_le, tsn]; omega
    have eB : nI n - nI s = nI (n - s) := pk_sub (by omega)
    rw [lose_idM eA, lose_id eA, eB]
    obtain ⟨i1, i2, i4, i5⟩ := find_2 (σ0 := σ) (μ0 := μ) (x := x) (y := nI (n - s)) (y' := nI n) hN rfl (rl_N h) (nN σ + 1) 0 (n - s) (nI s - nI n) σ (s_X4_saves μ) (by omega) (by omega) rfl (by omega) (by rw [hm, cN]; omega) hS
    refine Or.inr ⟨?_, ?_, i1, i2⟩
    · show 0 ≤ nI s + nI m - nI n
      rw [av]; exact nI_pos' (by omega)
    · show f_X4_ofTitle (g_X4_shelf_111 μ x (nI n) (nN σ + 1) 0 (nI s - nI n) (s_X4_saves μ)) x 4 = nI s + nI m - nI n
      rw [q_ofTitle i1 x 4 (by decide), ofIn_n, i4, av]
      congr 1
      omega
theorem own_eq {x : Int32} (hx : bnd x 0 4) : (¬ x = 2 ∧ ¬ x = 3) ↔ (x = 0 ∨ x = 1 ∨ x = 4) := by
  have l0 : (0 : Int32).toInt = 0 := by decide
  have l1 : (1 : Int32).toInt = 1 := by decide
  have l2 : (2 : Int32).toInt = 2 := by decide
  have l3 : (3 : Int32).toInt = 3 := by decide
  have l4 : (4 : Int32).toInt = 4 := by decide
  have a := hx.1
  have b := hx.2
  rw [← Int32.toInt_inj, ← Int32.toInt_inj, ← Int32.toInt_inj, ← Int32.toInt_inj, ← Int32.toInt_inj, l0, l1, l2, l3, l4]
  omega
theorem ow2 {k : Nat} (h : bnd (σ 13 k) 0 4) : (f_X2_isOwned σ k = 0) = ¬ (¬ σ 13 k = 2 ∧ ¬ σ 13 k = 3) := by
  rw [own_eq h]
  unfold f_X2_isOwned
  by_cases a : σ 13 k = 0
  · simp [a]
  · by_cases b : σ 13 k = 1
    · simp [b]
    · by_cases c : σ 13 k = 4
      · simp [c]
      · simp [a, b, c]
theorem ag_1 (a b w u : Int32) : a + w - (b + u) = a - b + (w - u) := by
  rw [← sub_sub_c, Int32.sub_eq_add_neg (a + w), add_r, ← Int32.sub_eq_add_neg, Int32.sub_eq_add_neg (a - b + w), Int32.add_assoc, ← Int32.sub_eq_add_neg]
theorem q_aging (h : rl σ (μ 0)) (x : Int32) : m_X4_agingOf μ x = (f_X2_agingBy σ x, μ) := by
  unfold m_X4_agingOf f_X2_agingBy
  rw [e_isT h]
  by_cases c : f_X2_hasTitle σ x = 0
  · rw [if_pos c, if_pos c]
  rw [if_neg c, if_neg c]
  obtain ⟨t1, t2⟩ := hasTitle_ok h.1 c
  have t6 := rl_6t h t1
  have e30 := ed_30 (rl_b6 h t6)
  rw [rl_cur h t6]
  by_cases d : σ 6 (tn x) < 30
  rotate_left
  · rw [if_neg d, if_pos (by rw [e30]; exact d)]
  rw [if_pos d, if_neg (by rw [e30]; exact fun q => q d)]
  have eS : μ 0 (23 + 2 * tn x + 1) = σ 6 (tn x) := rl_cur h t6
  have eI : shU (shU μ 0 (23 + 2 * tn x + 1) (σ 6 (tn x) + 1)) 0 (23 + 2 * tn x + 1) (σ 6 (tn x) + 1 - 1) = μ := by
    rw [shU_tw, pred_1, ← eS]; exact shU_id
  rw [eS, eI]
  have b1 := b_ed1 (rl_b6 h t6) d
  have h' : rl (shU σ 6 (tn x) (σ 6 (tn x) + 1)) (shU μ 0 (23 + 2 * tn x + 1) (σ 6 (tn x) + 1) 0) := by
    rw [u0]
    exact ⟨okS_of h.1 rfl rfl rfl rfl rfl (fun _ q => q), rq_w (rl_q h) 6 (tn x) t6 (by decide) (bnd_w b1 (by decide) (by decide))⟩
  generalize shU μ 0 (23 + 2 * tn x + 1) (σ 6 (tn x) + 1) = μ' at h'
  have eN : nN (shU σ 6 (tn x) (σ 6 (tn x) + 1)) = nN σ := rfl
  have g : ∀ (fu k : Nat) (a b : Int32), g_X4_owned_4 μ x fu k a - g_X4_owned_4 μ' x fu k b = g_X2_agingBy_32 σ x fu k (a - b) := by
    intro fu
    induction fu with
    | zero => intro k a b; rfl
    | succ fu ih =>
      intro k a b
      rw [g_X4_owned_4, g_X4_owned_4, g_X2_agingBy_32, rl_N h, rl_N h', eN]
      by_cases c : nN σ ≤ k
      · rw [if_pos c, if_pos c, if_pos c]
      · have kN := Nat.lt_of_not_le c
        have k6 := rl_60 h kN
        have e0 : f_X4_of μ' k 0 = σ 10 k := rl_o0 h' k6
        have e2 : (f_X4_is μ' k 2 = 0) = ¬ σ 13 k = 2 := rl_is h' k6 2
        have e3 : (f_X4_is μ' k 3 = 0) = ¬ σ 13 k = 3 := rl_is h' k6 3
        have ew : f_X4_worthOf μ' k = f_X2_worthOf (shU σ 6 (tn x) (σ 6 (tn x) + 1)) k := e_worthOf h' kN
        rw [if_neg c, if_neg c, if_neg c]
        simp only [rl_o0 h k6, rl_is h k6, e0, e2, e3, e_worthOf h kN, ew, ow2 (rl_b13 h k6), ite_not, Int32.add_zero]
        by_cases a1 : σ 10 k = x
        · have et : tOf σ k = tn x := congrArg tn a1
          have ew2 : f_X2_worthOf (shU σ 6 (tn x) (σ 6 (tn x) + 1)) k = f_X2_worthBy σ (tn x) (σ 6 (tn x) + 1) (σ 11 k) (σ 12 k) := by
            have e1 : tOf (shU σ 6 (tn x) (σ 6 (tn x) + 1)) k = tn x := et
            unfold f_X2_worthOf
            rw [e1, shU_eq]
            rfl
          by_cases a2 : σ 13 k = 2
          · rw [if_pos a1, if_pos a1, if_pos a1, if_pos a2, if_pos a2, if_neg (show ¬ (¬ σ 13 k = 2 ∧ ¬ σ 13 k = 3) from fun z => z.1 a2), ih]
          · by_cases a3 : σ 13 k = 3
            · rw [if_pos a1, if_pos a1, if_pos a1, if_neg a2, if_neg a2, if_pos a3, if_pos a3, if_neg (show ¬ (¬ σ 13 k = 2 ∧ ¬ σ 13 k = 3) from fun z => z.2 a3), ih]
            · rw [if_pos a1, if_pos a1, if_pos a1, if_neg a2, if_neg a2, if_neg a3, if_neg a3, if_pos (show ¬ σ 13 k = 2 ∧ ¬ σ 13 k = 3 from ⟨a2, a3⟩), ih, ew2, ag_1]
        · rw [if_neg a1, if_neg a1, if_neg a1, ih]
  have e := g (nN σ + 1) 0 0 0
  unfold f_X4_owned
  rw [rl_N h, rl_N h', eN, e]
  rfl
end OPE

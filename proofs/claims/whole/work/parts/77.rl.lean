/-! ===== copies given back, days passed, the same of both ===== -/
section OPD
variable {σ : Nat → Nat → Int32} {μ S : Nat → Nat → Int32}
theorem shU_tw {f i : Nat} {a b : Int32} : shU (shU σ f i a) f i b = shU σ f i b := by
  funext k j
  unfold shU va_up upd
  by_cases c : k = f
  · rw [if_pos c, if_pos c, if_pos rfl]
    by_cases d : j = i
    · rw [if_pos d, if_pos d]
    · rw [if_neg d, if_neg d, if_neg d]
  · rw [if_neg c, if_neg c, if_neg c]
theorem shU_ci {f i j : Nat} {a b : Int32} (h : i ≠ j) : shU (shU σ f i a) f j b = shU (shU σ f j b) f i a := by
  funext k q
  unfold shU va_up upd
  by_cases c : k = f
  · rw [if_pos c, if_pos c, if_pos rfl, if_pos rfl]
    by_cases d : q = i
    · by_cases e : q = j
      · exact absurd (d.symm.trans e) h
      · rw [if_neg e, if_pos d, if_pos d]
    · by_cases e : q = j
      · rw [if_pos e, if_neg d, if_pos e]
      · rw [if_neg e, if_neg d, if_neg d, if_neg e]
  · rw [if_neg c, if_neg c, if_neg c, if_neg c]
theorem shU_id {f i : Nat} : shU σ f i (σ f i) = σ := by
  funext k q
  unfold shU va_up upd
  by_cases c : k = f
  · rw [if_pos c]
    by_cases d : q = i
    · rw [if_pos d, c, d]
    · rw [if_neg d, c]
  · rw [if_neg c]
theorem give_id {k cu : Nat} {a b c d : Int32} : shU (shU (shU (shU (shU σ 16 1 a) 17 cu b) 16 3 c) 17 cu d) 12 k (σ 12 k) = shU (shU (shU (shU σ 16 1 a) 17 cu b) 16 3 c) 17 cu d := shU_id (σ := shU (shU (shU (shU σ 16 1 a) 17 cu b) 16 3 c) 17 cu d) (f := 12) (i := k)
theorem give_1 {k cu : Nat} {a b c d e : Int32} : shU (shU (shU (shU (shU (shU σ 16 1 a) 17 cu b) 16 2 c) 17 cu d) 12 k e) 13 k 0 = shU (shU (shU (shU (shU σ 13 k 0) 12 k e) 16 2 c) 16 1 a) 17 cu d := by
  rw [shU_cm (f := 17) (g := 16) (by decide), shU_tw, shU_ci (f := 16) (by decide), shU_cm (f := 12) (g := 13) (by decide), shU_cm (f := 17) (g := 13) (by decide), shU_cm (f := 16) (g := 13) (by decide), shU_cm (f := 16) (g := 13) (by decide), shU_cm (f := 17) (g := 12) (by decide), shU_cm (f := 16) (g := 12) (by decide), shU_cm (f := 16) (g := 12) (by decide)]
theorem give_2 {k cu : Nat} {a b c d : Int32} : shU (shU (shU (shU (shU σ 16 1 a) 17 cu b) 16 3 c) 17 cu d) 13 k 3 = shU (shU (shU (shU σ 13 k 3) 16 3 c) 16 1 a) 17 cu d := by
  rw [shU_cm (f := 17) (g := 16) (by decide), shU_tw, shU_ci (f := 16) (by decide), shU_cm (f := 17) (g := 13) (by decide), shU_cm (f := 16) (g := 13) (by decide), shU_cm (f := 16) (g := 13) (by decide)]
theorem pass_st {k cu : Nat} {a b : Int32} : shU (shU (shU σ 16 3 a) 17 cu b) 13 k 3 = shU (shU (shU σ 13 k 3) 16 3 a) 17 cu b := by
  rw [shU_cm (f := 17) (g := 13) (by decide), shU_cm (f := 16) (g := 13) (by decide)]
theorem b_days (h : rl σ (μ 0)) {k : Nat} (hk : k < nN σ) : bnd (f_X2_daysLate σ k) 0 100000 := by
  unfold f_X2_daysLate
  exact bnd_w (b_max (by decide) (b_subB (rl_b0 h) (rl_b15 h (rl_60 h hk)))) (by decide) (by decide : (100000 : Int) - 0 ≤ 100000)
theorem b_lateC (h : rl σ (μ 0)) {k : Nat} (hk : k < nN σ) : bnd (f_X2_lateCharge σ k) 0 20000000 := by
  have w := b_worth h hk
  have q := b_mul (b_days h hk) (rl_b41 h) (by decide)
  unfold f_X2_lateCharge
  split
  · exact bnd_w w (by decide) (by decide)
  · exact bnd_w q.2 (by decide) (by decide)
theorem b_dam (h : rl σ (μ 0)) {k : Nat} (hk : k < nN σ) {y : Int32} (hy : bnd y 0 4) : bnd (f_X2_damageCharge σ k y) 0 20000 := by
  have k6 := rl_60 h hk
  have t6 := tOf_6 h hk
  have g := rl_b12 h k
  have o : (1 : Int32).toInt = 1 := by decide
  have l2 : (2 : Int32).toInt = 2 := by decide
  have l4 : (4 : Int32).toInt = 4 := by decide
  have g0 := g.1
  have g1 := g.2
  have y0 := hy.1
  have y1 := hy.2
  have eg := i_add (a := σ 12 k) (b := y) (by omega) (by omega) (by omega) (by omega)
  have e1 := i_add (a := σ 12 k) (b := 1) (by omega) (by omega) (by omega) (by omega)
  unfold f_X2_damageCharge f_X2_isRuinedBy f_X2_worthWithGrade
  by_cases c : σ 12 k + y ≤ 4
  · rw [if_pos c, if_pos rfl]
    by_cases d : 2 ≤ y
    · rw [if_pos d]
      rw [Int32.le_iff_toInt_le, eg, l4] at c
      rw [Int32.le_iff_toInt_le, l2] at d
      have hc := bnd_w (b' := 31) (rl_b6 h t6) (Int.le_refl _) (by decide)
      have q1 := e_wq h (t := tOf σ k) (y := σ 11 k) (z := σ 12 k + 1) hc (rl_b11 h k6) ⟨by omega, by omega⟩
      have q2 := e_wq h (t := tOf σ k) (y := σ 11 k) (z := σ 12 k + y) hc (rl_b11 h k6) ⟨by omega, by omega⟩
      have bc := b_cut h hc (rl_b11 h k6)
      have m := wq_mono (P := (σ 5 (tOf σ k)).toInt) (c := (cutOf σ (σ 6 (tOf σ k)) (σ 11 k)).toInt) (g := (σ 12 k + 1).toInt) (g' := (σ 12 k + y).toInt) (rl_b5 h _).1 bc.1 bc.2 (by omega)
      have s := b_sub q1.2 q2.2
      have v1 := q1.2.2
      have v2 := q2.2.1
      exact ⟨by rw [s, q1.1, q2.1]; omega, by rw [s]; omega⟩
    · rw [if_neg d]; exact ⟨by decide, by decide⟩
  · rw [if_neg c, if_neg (by decide)]; exact b_worth h hk
theorem cannotGive_z (h : rl σ (μ 0)) (x y : Int32) : f_X4_cannotGive μ x y = (if f_X2_hasCopy σ x = 0 then -2 else if f_X2_isGrade y = 0 then -3 else if σ 13 (tn x) = 1 then 0 else -4) := by
  unfold f_X4_cannotGive f_X2_isGrade
  rw [e_isK h, e_in]
  by_cases c : f_X2_hasCopy σ x = 0
  · rw [if_pos c, if_pos c]
  · rw [if_neg c, if_neg c]
    simp only [rl_is h (rl_60 h (hasCopy_ok h.1 c).1), ite_not]
theorem a_give (h : rl σ (μ 0)) (x y : Int32) : alike σ (m_X2_takeBack σ x y) (f_X4_cannotGive μ x y) (fun S => m_X4_gives S (tn x) y) := by
  have okp : okS (m_X2_takeBack σ x y).2 := takeBack_ok h.1 x y
  unfold m_X2_takeBack at okp
  unfold alike m_X2_takeBack
  rw [cannotGive_z h]
  by_cases c : f_X2_hasCopy σ x = 0
  · rw [if_pos c, if_pos c]; exact Or.inl ⟨m2.1, m2.2, rfl⟩
  rw [if_neg c] at okp
  rw [if_neg c, if_neg c]
  by_cases d : f_X2_isGrade y = 0
  · rw [if_pos d, if_pos d]; exact Or.inl ⟨m3.1, m3.2, rfl⟩
  rw [if_neg d] at okp
  rw [if_neg d, if_neg d]
  obtain ⟨t1, t2⟩ := hasCopy_ok h.1 c
  generalize tn x = k at *
  by_cases e : σ 13 k = 1
  rotate_left
  · rw [if_neg e, if_neg e]; exact Or.inl ⟨m4.1, m4.2, rfl⟩
  rw [if_pos e] at okp
  rw [if_pos e, if_pos e]
  have k6 := rl_60 h t1
  have r8 := (okS_r h.1 t1 e).2
  have hy : bnd y 0 4 := bnd_w (bnd_btw d) (by decide) (by decide)
  have nn : 0 ≤ f_X2_lateCharge σ k + f_X2_damageCharge σ k y := b_nn (b_add (b_lateC h t1) (b_dam h t1 hy)) (by decide)
  by_cases f : σ 12 k + y ≤ 4
  · have fr0 : f_X2_isRuinedBy σ k y = 0 := by unfold f_X2_isRuinedBy; rw [if_pos f]
    rw [if_pos fr0] at okp
    rw [if_pos fr0]
    refine Or.inr ⟨rfl, nn, fun S hS => ?_⟩
    unfold m_X4_gives
    dsimp only
    rw [rl_o2 hS k6, if_pos f, rl_mr hS t1 e, e_lateC hS t1 e, e_damage hS t1]
    have h12 : f_X4_of (s_X4_charges (s_X4_charges S (rOf σ k) 1 (f_X2_lateCharge σ k)) (rOf σ k) 2 (f_X2_damageCharge σ k y)) k 2 = σ 12 k := by
      unfold f_X4_of
      rw [charges_hi r8 (by decide) (by omega), charges_hi r8 (by decide) (by omega)]; exact rl_o2 hS k6
    rw [h12]
    refine ⟨rfl, ⟨okp, ?_⟩, fr_t (fr_ch r8 (by decide)) (fr_t (fr_ch r8 (by decide)) (fr_t (fr_w fr_r (by omega) _) (fr_goes k6)))⟩
    have q1 := rq_ch (rl_q hS) r8 (su := 1) (by decide) (f_X2_lateCharge σ k)
    have q2 := rq_ch q1 r8 (su := 2) (by decide) (f_X2_damageCharge σ k y)
    have g0 := (rl_b12 h k).1
    have q3 := rq_w q2 12 k k6 (by decide) (v := σ 12 k + y) (by
      have l4 : (4 : Int32).toInt = 4 := by decide
      have g1 := (rl_b12 h k).2
      have y0 := hy.1
      have y1 := hy.2
      have eg := i_add (a := σ 12 k) (b := y) (by omega) (by omega) (by omega) (by omega)
      rw [Int32.le_iff_toInt_le, eg, l4] at f
      exact ⟨by omega, by omega⟩)
    have q4 := rq_go (v := 0) q3 k6 (by decide) ⟨by decide, by decide⟩
    have es : shU (shU σ 16 1 (σ 16 1 + f_X2_lateCharge σ k)) 17 (rOf σ k) (σ 17 (rOf σ k) + f_X2_lateCharge σ k) 17 (rOf σ k) = σ 17 (rOf σ k) + f_X2_lateCharge σ k := shU_eq
    have es2 : shU (shU σ 16 1 (σ 16 1 + f_X2_lateCharge σ k)) 17 (rOf σ k) (σ 17 (rOf σ k) + f_X2_lateCharge σ k) 16 2 = σ 16 2 := by rw [shU_f (f := 17) (f' := 16) (by decide)]; exact shU_ne (by decide)
    rw [es, es2, give_1, Int32.add_assoc] at q4
    dsimp only
    rw [goes_row]
    unfold s_X4_sets
    rw [u0]
    exact q4
  · have fr0 : ¬ f_X2_isRuinedBy σ k y = 0 := by unfold f_X2_isRuinedBy; rw [if_neg f]; decide
    rw [if_neg fr0] at okp
    rw [if_neg fr0]
    refine Or.inr ⟨rfl, nn, fun S hS => ?_⟩
    unfold m_X4_gives
    dsimp only
    rw [rl_o2 hS k6, if_neg f, rl_mr hS t1 e, e_lateC hS t1 e, e_damage hS t1]
    have h12 : f_X4_of (s_X4_charges (s_X4_charges S (rOf σ k) 1 (f_X2_lateCharge σ k)) (rOf σ k) 3 (f_X2_damageCharge σ k y)) k 2 = σ 12 k := by
      unfold f_X4_of
      rw [charges_hi r8 (by decide) (by omega), charges_hi r8 (by decide) (by omega)]; exact rl_o2 hS k6
    rw [h12]
    refine ⟨rfl, ⟨okp, ?_⟩, fr_t (fr_ch r8 (by decide)) (fr_t (fr_ch r8 (by decide)) (fr_t (fr_w fr_r (by omega) _) (fr_goes k6)))⟩
    have q1 := rq_ch (rl_q hS) r8 (su := 1) (by decide) (f_X2_lateCharge σ k)
    have q2 := rq_ch q1 r8 (su := 3) (by decide) (f_X2_damageCharge σ k y)
    have q3 := rq_w q2 12 k k6 (by decide) (v := σ 12 k) (rl_b12 h k)
    rw [give_id] at q3
    have q4 := rq_go (v := 3) q3 k6 (by decide) ⟨by decide, by decide⟩
    have es : shU (shU σ 16 1 (σ 16 1 + f_X2_lateCharge σ k)) 17 (rOf σ k) (σ 17 (rOf σ k) + f_X2_lateCharge σ k) 17 (rOf σ k) = σ 17 (rOf σ k) + f_X2_lateCharge σ k := shU_eq
    have es2 : shU (shU σ 16 1 (σ 16 1 + f_X2_lateCharge σ k)) 17 (rOf σ k) (σ 17 (rOf σ k) + f_X2_lateCharge σ k) 16 3 = σ 16 3 := by rw [shU_f (f := 17) (f' := 16) (by decide)]; exact shU_ne (by decide)
    rw [es, es2, give_2, Int32.add_assoc] at q4
    dsimp only
    rw [goes_row]
    unfold s_X4_sets
    rw [u0]
    exact q4
theorem r_give (h : rl σ (μ 0)) (hok : okM μ) (x y : Int32) : recd σ μ (m_X2_takeBack σ x y) (m_X4_giveBack μ x y) := alike_rec h hok (a_give h x y)
/-! days pass -/
theorem lost_eq (h : rl σ (S 0)) {k : Nat} (hk : k < nN σ) : (f_X4_late S k ≤ S 0 6) = (f_X2_isLostOn σ k (σ 0 0) = 0) := by
  have z0 : (0 : Int32).toInt = 0 := by decide
  have b := rl_b42 h
  have b1 := b.1
  have k6 := rl_60 h hk
  have e := b_sub (rl_b0 h) (rl_b15 h k6)
  unfold f_X2_isLostOn
  rw [e_late h hk, rl_set6 h]
  by_cases c : σ 13 k = 1
  · rw [if_pos c, if_pos c]
    unfold f_X2_daysLate
    by_cases d : σ 0 0 - σ 15 k ≤ σ 4 2
    · rw [if_pos d]
      have : (if 0 < σ 0 0 - σ 15 k then σ 0 0 - σ 15 k else 0) ≤ σ 4 2 := by
        split
        · exact d
        · rw [Int32.le_iff_toInt_le]; omega
      exact propext ⟨fun _ => rfl, fun _ => this⟩
    · rw [if_neg d]
      have : ¬ (if 0 < σ 0 0 - σ 15 k then σ 0 0 - σ 15 k else 0) ≤ σ 4 2 := by
        rw [if_pos]
        · exact d
        · rw [Int32.le_iff_toInt_le] at d
          rw [Int32.lt_iff_toInt_lt]; omega
      exact propext ⟨fun q => absurd q this, fun q => absurd q (by decide)⟩
  · rw [if_neg c, if_neg c]
    exact propext ⟨fun _ => rfl, fun _ => by rw [Int32.le_iff_toInt_le]; omega⟩
theorem passes_g2 {σ0 μ0 : Nat → Nat → Int32} {x x' : Int32} : ∀ (fu k : Nat) (a : Int32) (ω Ω : Nat → Nat → Int32), rl ω (Ω 0) → k ≤ 60 → bnd a 0 k → (g_X4_passes_14 μ0 x' fu k a Ω).1 = (g_X2_passDays_42 σ0 x fu k a ω).1 ∧ bnd (g_X2_passDays_42 σ0 x fu k a ω).1 0 60 ∧ rl (g_X2_passDays_42 σ0 x fu k a ω).2 ((g_X4_passes_14 μ0 x' fu k a Ω).2 0) ∧ fr Ω (g_X4_passes_14 μ0 x' fu k a Ω).2 := by
  intro fu
  induction fu with
  | zero => intro k a ω Ω h hk ha; exact ⟨rfl, bnd_w ha (by omega) (by omega), h, fr_r⟩
  | succ fu ih =>
    intro k a ω Ω h hk ha
    rw [g_X4_passes_14, g_X2_passDays_42, rl_N h]
    by_cases c : nN ω ≤ k
    · rw [if_pos c, if_pos c]; exact ⟨rfl, bnd_w ha (by omega) (by omega), h, fr_r⟩
    · have kN := Nat.lt_of_not_le c
      have k6 := rl_60 h kN
      rw [if_neg c, if_neg c]
      simp only [lost_eq h kN]
      by_cases d : f_X2_isLostOn ω k (ω 0 0) = 0
      · rw [if_pos d, if_pos d]
        exact ih _ _ _ _ h (by omega) (bnd_w ha (by omega) (by omega))
      · rw [if_neg d, if_neg d]
        have e := lostOn_1 d
        have r8 := (okS_r h.1 kN e).2
        rw [rl_mr h kN e, e_worthOf h kN]
        have q1 := rq_ch (rl_q h) r8 (su := 3) (by decide) (f_X2_worthOf ω k)
        have q2 := rq_go (v := 3) q1 k6 (by decide) ⟨by decide, by decide⟩
        rw [pass_st] at q2
        have q3 : rl (shU (shU (shU ω 13 k 3) 16 3 (ω 16 3 + f_X2_worthOf ω k)) 17 (rOf ω k) (ω 17 (rOf ω k) + f_X2_worthOf ω k)) (s_X4_goes (s_X4_charges Ω (rOf ω k) 3 (f_X2_worthOf ω k)) k 3 0) := by
          rw [goes_row]
          exact ⟨okS_of h.1 rfl rfl rfl rfl rfl (fun _ q => shU_13 (σ := ω) (by decide) q), q2⟩
        obtain ⟨i1, i2, i3, i4⟩ := ih (k + 1) (a + 1) _ _ q3 (by omega) (bnd_w (b_add ha b_1) (by omega) (by omega))
        exact ⟨i1, i2, i3, fr_t (fr_t (fr_ch r8 (by decide)) (fr_goes k6)) i4⟩
theorem b_dayx {d x : Int32} (hd : bnd d 0 100000) (hx : bnd x 1 400) (h : d + x ≤ 100000) : bnd (d + x) 0 100000 := by
  have b := b_add hd hx
  have l : (100000 : Int32).toInt = 100000 := by decide
  rw [Int32.le_iff_toInt_le, l] at h
  exact ⟨by have := b.1; omega, h⟩
theorem a_pass (h : rl σ (μ 0)) (x : Int32) : alike σ (m_X2_passDays σ x) (f_X4_cannotPass μ x) (fun S => m_X4_passes S x) := by
  unfold alike m_X2_passDays f_X4_cannotPass
  rw [e_in, rl_day h]
  by_cases c : f_X2_isBetween x 1 400 = 0
  · rw [if_pos c, if_pos c]; exact Or.inl ⟨m3.1, m3.2, rfl⟩
  rw [if_neg c, if_neg c]
  by_cases d : σ 0 0 + x ≤ 100000
  rotate_left
  · rw [if_neg d, if_neg d]; exact Or.inl ⟨m5.1, m5.2, rfl⟩
  rw [if_pos d, if_pos d]
  have hx : bnd x 1 400 := bnd_w (bnd_btw c) (by decide) (by decide)
  have key : ∀ S : Nat → Nat → Int32, rl σ (S 0) → rl (shS σ 0 (σ 0 0 + x)) (shU S 0 3 (S 0 3 + x) 0) := by
    intro S hS
    rw [u0, rl_day hS]
    exact ⟨okS_of h.1 rfl rfl rfl rfl rfl (fun _ q => q), rq_s (rl_q hS) 0 (by decide) (fun _ => b_dayx (rl_b0 h) hx d)⟩
  refine Or.inr ⟨rfl, ?_, fun S hS => ?_⟩
  · obtain ⟨-, i2, -, -⟩ := passes_g2 (σ0 := σ) (μ0 := μ) (x := x) (x' := x) (nN σ + 1) 0 0 _ _ (key μ h) (by omega) b_0
    exact b_nn i2 (by decide)
  · obtain ⟨i1, i2, i3, i4⟩ := passes_g2 (σ0 := σ) (μ0 := S) (x := x) (x' := x) (nN σ + 1) 0 0 _ _ (key S hS) (by omega) b_0
    unfold m_X4_passes
    dsimp only
    rw [rl_N hS]
    exact ⟨i1, i3, fr_t (fr_w fr_r (by omega) _) i4⟩
theorem r_pass (h : rl σ (μ 0)) (hok : okM μ) (x : Int32) : recd σ μ (m_X2_passDays σ x) (m_X4_pass μ x) := alike_rec h hok (a_pass h x)
end OPD

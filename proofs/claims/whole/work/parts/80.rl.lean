/-! ===== the text, read the same by both: blanks and numbers ===== -/
def TS (τ μ : Nat → Nat → Int32) : Prop := okR τ ∧ (∀ k, k < 100 → τ 0 k = μ 4 k) ∧ τ 1 0 = μ 5 0 ∧ τ 2 0 = μ 6 0 ∧ (∀ k, bnd (τ 0 k) 0 255)
def nb (τ : Nat → Nat → Int32) : Prop := xl τ ≤ xa τ ∨ τ 0 (xa τ) ≠ 32
section TX
variable {τ μ : Nat → Nat → Int32}
theorem TS_l (h : TS τ μ) : tl μ = xl τ := (congrArg tn h.2.2.1).symm
theorem TS_a (h : TS τ μ) : ta μ = xa τ := (congrArg tn h.2.2.2.1).symm
theorem TS_x (h : TS τ μ) : xl τ ≤ 100 ∧ xa τ ≤ xl τ ∧ τ 2 0 = nI (xa τ) := ⟨h.1.1.2, h.1.2.2, h.1.2.1⟩
theorem TS_b (h : TS τ μ) {k : Nat} (hk : k < xl τ) : μ 4 k = τ 0 k := (h.2.1 k (by have := (TS_x h).1; omega)).symm
theorem TS_inc (h : TS τ μ) (hl : xa τ < xl τ) : TS (shS τ 2 (τ 2 0 + 1)) (shS μ 6 (μ 6 0 + 1)) := by
  refine ⟨(incX_ok h.1 hl).1, fun k hk => ?_, ?_, ?_, fun k => ?_⟩
  · rw [shS_f (by decide), shS_f (by decide)]; exact h.2.1 k hk
  · rw [shS_f (by decide), shS_f (by decide)]; exact h.2.2.1
  · rw [shS_eq, shS_eq, h.2.2.2.1]
  · rw [shS_f (by decide)]; exact h.2.2.2.2 k
/-- a change of a field that is no part of the reading -/
theorem TS_f {τ' μ' : Nat → Nat → Int32} (h : TS τ μ) (e0 : τ' 0 = τ 0) (e1 : τ' 1 = τ 1) (e2 : τ' 2 = τ 2) (e4 : μ' 4 = μ 4) (e5 : μ' 5 = μ 5) (e6 : μ' 6 = μ 6) : TS τ' μ' := by
  unfold TS okR okX xl xa
  rw [e0, e1, e2, e4, e5, e6]
  exact h
theorem here_2 : (m_X4_here μ).2 = g_X4_here_0 μ 101 μ := by
  unfold m_X4_here
  split <;> rfl
theorem here_1 : (m_X4_here μ).1 = if tl (m_X4_here μ).2 ≤ ta (m_X4_here μ).2 then -1 else (m_X4_here μ).2 4 (ta (m_X4_here μ).2) := by
  rw [here_2]
  unfold m_X4_here
  split <;> rfl
theorem skip_g (t0 m0 : Nat → Nat → Int32) : ∀ (fu : Nat) (ω Ω : Nat → Nat → Int32), TS ω Ω → TS (g_X1_skipBlanks_0 t0 fu ω) (g_X4_here_0 m0 fu Ω) ∧ (xl ω - xa ω < fu → nb (g_X1_skipBlanks_0 t0 fu ω)) ∧ xa ω ≤ xa (g_X1_skipBlanks_0 t0 fu ω) := by
  intro fu
  induction fu with
  | zero => intro ω Ω h; exact ⟨h, fun q => absurd q (Nat.not_lt_zero _), Nat.le_refl _⟩
  | succ fu ih =>
    intro ω Ω h
    rw [g_X1_skipBlanks_0, g_X4_here_0, TS_l h, TS_a h]
    by_cases c : xl ω ≤ xa ω
    · rw [if_pos c, if_pos c]; exact ⟨h, fun _ => Or.inl c, Nat.le_refl _⟩
    · rw [if_neg c, if_neg c, TS_b h (Nat.lt_of_not_le c)]
      by_cases d : ω 0 (xa ω) = 32
      · rw [if_pos d, if_pos d]
        have i := incX_ok h.1 (Nat.lt_of_not_le c)
        obtain ⟨a1, a2, a3⟩ := ih _ _ (TS_inc h (Nat.lt_of_not_le c))
        rw [i.2.1] at a3
        exact ⟨a1, fun q => a2 (by rw [i.2.1, i.2.2]; omega), by omega⟩
      · rw [if_neg d, if_neg d]; exact ⟨h, fun _ => Or.inr d, Nat.le_refl _⟩
theorem TS_skip (h : TS τ μ) : TS (s_X1_skipBlanks τ) (m_X4_here μ).2 ∧ nb (s_X1_skipBlanks τ) ∧ xa τ ≤ xa (s_X1_skipBlanks τ) := by
  obtain ⟨a, b, c⟩ := skip_g τ μ 101 τ μ h
  rw [here_2]
  exact ⟨a, b (by have := (TS_x h).1; omega), c⟩
theorem TS_here (h : TS τ μ) : (m_X4_here μ).1 = f_X1_here (s_X1_skipBlanks τ) := by
  have s := (TS_skip h).1
  rw [here_1, TS_l s, TS_a s]
  unfold f_X1_here
  by_cases c : xl (s_X1_skipBlanks τ) ≤ xa (s_X1_skipBlanks τ)
  · rw [if_pos c, if_pos c]
  · rw [if_neg c, if_neg c, TS_b s (Nat.lt_of_not_le c)]
theorem skip_id (h : nb τ) : s_X1_skipBlanks τ = τ := by
  unfold s_X1_skipBlanks
  rw [g_X1_skipBlanks_0]
  rcases h with h | h
  · rw [if_pos h]
  · rw [if_neg h, ite_self]
theorem here_id (h : TS τ μ) (hn : nb τ) : (m_X4_here μ).2 = μ := by
  rw [here_2, g_X4_here_0, TS_l h, TS_a h]
  by_cases c : xl τ ≤ xa τ
  · rw [if_pos c]
  · rw [if_neg c, TS_b h (Nat.lt_of_not_le c)]
    rcases hn with q | q
    · exact absurd q c
    · rw [if_neg q]
theorem here_hi (h : TS τ μ) : ((m_X4_here μ).1 < 0) = (xl (s_X1_skipBlanks τ) ≤ xa (s_X1_skipBlanks τ)) := by
  rw [TS_here h]
  unfold f_X1_here
  by_cases c : xl (s_X1_skipBlanks τ) ≤ xa (s_X1_skipBlanks τ)
  · rw [if_pos c]; exact propext ⟨fun _ => c, fun _ => by decide⟩
  · rw [if_neg c]
    refine propext ⟨fun q => absurd q ?_, fun q => absurd q c⟩
    rw [Int32.lt_iff_toInt_lt, show (0 : Int32).toInt = 0 by decide]
    have := ((TS_skip h).1.2.2.2.2 (xa (s_X1_skipBlanks τ))).1
    omega
def pw : Nat → Int
  | 0 => 0
  | q + 1 => 10 * pw q + 9
theorem pw_le {q : Nat} (h : q ≤ 5) : pw q ≤ 99999 := by
  match q, h with
  | 0, _ => decide
  | 1, _ => decide
  | 2, _ => decide
  | 3, _ => decide
  | 4, _ => decide
  | 5, _ => decide
def dig (x : Int32) : Prop := ¬ x < 48 ∧ ¬ 57 < x
theorem in_dig (x : Int32) : (f_X4_in x 48 57 = 0) = ¬ dig x := by
  unfold f_X4_in dig
  by_cases c : x < 48
  · simp [c]
  · by_cases d : 57 < x <;> simp [c, d]
theorem b_digit {v b : Int32} {q : Nat} (hq : q ≤ 4) (hv : bnd v 0 (pw q)) (hd : dig b) : bnd (v * 10 + b - 48) 0 (pw (q + 1)) := by
  have p5 : 10 * pw q + 9 ≤ 99999 := pw_le (q := q + 1) (by omega)
  have l48 : (48 : Int32).toInt = 48 := by decide
  have l57 : (57 : Int32).toInt = 57 := by decide
  have l10 : (10 : Int32).toInt = 10 := by decide
  have d1 := hd.1
  have d2 := hd.2
  rw [Int32.lt_iff_toInt_lt, l48] at d1
  rw [Int32.lt_iff_toInt_lt, l57] at d2
  have v0 := hv.1
  have v1 := hv.2
  have m := b_mul (b := 10) (n := 10) (bnd_w hv (Int.le_refl _) (by omega : _ ≤ (99999 : Int))) ⟨by decide, by decide⟩ (by decide)
  have a := i_add (a := v * 10) (b := b) (by rw [m.1, l10]; omega) (by rw [m.1, l10]; omega) (by omega) (by omega)
  have s := i_sub (a := v * 10 + b) (b := 48) (by rw [a, m.1, l10]; omega) (by rw [a, m.1, l10]; omega) (by omega) (by omega)
  rw [a, m.1, l10, l48] at s
  exact ⟨by omega, by show _ ≤ 10 * pw q + 9; omega⟩
/-- the numbers: the class counts digits as it goes, the model's loop looks at most five places ahead -/
theorem num_g (h : TS τ μ) {s : Nat} (hs : s = xa (s_X1_skipBlanks τ)) : ∀ (fu q fa : Nat) (v : Int32) (ω Ω : Nat → Nat → Int32), 6 ≤ fu + q → 6 ≤ fa + q → q ≤ 5 → xa ω = s + q → TS ω Ω → ω 0 = (s_X1_skipBlanks τ) 0 → ω 1 = (s_X1_skipBlanks τ) 1 → bnd v 0 (pw q) → (xl (s_X1_skipBlanks τ) ≤ s → q = 0) →
    TS (g_X1_readNumber_4 (s_X1_skipBlanks τ) fu q v ω).2 (shS Ω 6 (nI (g_X4_reads_12 μ fa (s + q) v).1)) ∧ s + q ≤ (g_X4_reads_12 μ fa (s + q) v).1 ∧
    (((g_X4_reads_12 μ fa (s + q) v).1 ≤ s ∨ ((g_X4_reads_12 μ fa (s + q) v).1 = s + 5 ∧ s + 5 < xl ω ∧ dig (ω 0 (s + 5)))) → (g_X1_readNumber_4 (s_X1_skipBlanks τ) fu q v ω).1 = -1) ∧
    (¬ ((g_X4_reads_12 μ fa (s + q) v).1 ≤ s ∨ ((g_X4_reads_12 μ fa (s + q) v).1 = s + 5 ∧ s + 5 < xl ω ∧ dig (ω 0 (s + 5)))) → (g_X1_readNumber_4 (s_X1_skipBlanks τ) fu q v ω).1 = (g_X4_reads_12 μ fa (s + q) v).2 ∧ bnd (g_X4_reads_12 μ fa (s + q) v).2 0 99999 ∧ (xl ω ≤ (g_X4_reads_12 μ fa (s + q) v).1 ∨ ¬ dig (ω 0 (g_X4_reads_12 μ fa (s + q) v).1))) ∧ (s + q < (g_X4_reads_12 μ fa (s + q) v).1 → s < (g_X4_reads_12 μ fa (s + q) v).1) := by
  have hk := (TS_skip h).1
  have e60 : (m_X4_here μ).2 6 0 = nI s := by rw [← hk.2.2.2.1, (TS_x hk).2.2, hs]
  have x100 := (TS_x hk).1
  have xs := (TS_x hk).2.1
  intro fu
  induction fu with
  | zero => intro q fa v ω Ω h1 h2 h3; omega
  | succ fu ih =>
    intro q fa v ω Ω h1 h2 h3 ha hω e0 e1 hv hz
    have el : xl ω = xl (s_X1_skipBlanks τ) := by unfold xl; rw [e1]
    have stay : TS ω (shS Ω 6 (nI (s + q))) := by
      refine ⟨hω.1, fun k hk => by rw [shS_f (by decide)]; exact hω.2.1 k hk, by rw [shS_f (by decide)]; exact hω.2.2.1, ?_, hω.2.2.2.2⟩
      rw [shS_eq, (TS_x hω).2.2, ha]
    obtain ⟨fb, rfl⟩ : ∃ fb, fa = fb + 1 := ⟨fa - 1, by omega⟩
    rw [g_X4_reads_12, g_X1_readNumber_4]
    have v5 : bnd v 0 99999 := bnd_w hv (Int.le_refl _) (pw_le h3)
    -- the model's loop stops here and the class too
    have stop : (xl ω ≤ xa ω ∨ ¬ dig (ω 0 (xa ω))) → ∀ R : MS, R = (if q = 0 then ((-1), ω) else (v, ω)) → TS R.2 (shS Ω 6 (nI (s + q))) ∧ s + q ≤ s + q ∧ ((s + q ≤ s ∨ (s + q = s + 5 ∧ s + 5 < xl ω ∧ dig (ω 0 (s + 5)))) → R.1 = -1) ∧ (¬ (s + q ≤ s ∨ (s + q = s + 5 ∧ s + 5 < xl ω ∧ dig (ω 0 (s + 5)))) → R.1 = v ∧ bnd v 0 99999 ∧ (xl ω ≤ s + q ∨ ¬ dig (ω 0 (s + q)))) ∧ (s + q < s + q → s < s + q) := by
      intro hst R hR
      have hR2 : R.2 = ω := by rw [hR]; split <;> rfl
      have hR0 : q = 0 → R.1 = -1 := fun c => by rw [hR, if_pos c]
      have hR1 : q ≠ 0 → R.1 = v := fun c => by rw [hR, if_neg c]
      rw [ha] at hst
      rw [hR2]
      refine ⟨stay, Nat.le_refl _, fun c => ?_, fun c => ?_, fun q => absurd q (Nat.lt_irrefl _)⟩
      · rcases c with c | ⟨c1, c2, c3⟩
        · exact hR0 (by omega)
        · rw [c1] at hst
          rcases hst with u | u
          · omega
          · exact absurd c3 u
      · exact ⟨hR1 (fun z => c (Or.inl (by omega))), v5, hst⟩
    by_cases c : xl ω ≤ xa ω
    · rw [if_pos c]
      have k : tl (m_X4_here μ).2 ≤ s + q := by rw [TS_l hk, ← el, ← ha]; exact c
      rw [if_pos k, ite_self]
      exact stop (Or.inl c) _ rfl
    · rw [if_neg c]
      have k : ¬ tl (m_X4_here μ).2 ≤ s + q := by rw [TS_l hk, ← el, ← ha]; exact c
      have k0 : ¬ (m_X4_here μ).1 < 0 := by
        rw [here_hi h, ← hs]
        intro z
        have := hz z
        omega
      have eb : (m_X4_here μ).2 4 (s + q) = ω 0 (s + q) := by rw [TS_b hk (by omega), e0]
      rw [if_neg k0, if_neg k, e60, eb, ha]
      by_cases d : dig (ω 0 (s + q))
      · rw [if_neg d.1, if_neg d.2]
        by_cases e : q = 5
        · subst e
          have q5 : nI s + 5 ≤ nI (s + 5) := by
            rw [show nI s + 5 = nI (s + 5) from nI_add s 5]; exact Int32.le_refl _
          rw [if_pos rfl, if_pos q5]
          refine ⟨stay, Nat.le_refl _, fun _ => rfl, fun z => ?_, fun z => absurd z (Nat.lt_irrefl _)⟩
          exact absurd (Or.inr ⟨rfl, by omega, d⟩) z
        · have q5 : ¬ nI s + 5 ≤ nI (s + q) := by
            rw [show nI s + 5 = nI (s + 5) from nI_add s 5]; exact nI_ge (by omega) (by omega)
          rw [if_neg e, if_neg q5, if_neg (show ¬ f_X4_in (ω 0 (s + q)) 48 57 = 0 by rw [in_dig]; exact fun z => z d)]
          have inc := incX_ok hω.1 (Nat.lt_of_not_le c)
          have ev : 10 * v + ω 0 (s + q) - 48 = v * 10 + ω 0 (s + q) - 48 := by rw [Int32.mul_comm]
          obtain ⟨i1, i2, i3, i4, i5⟩ := ih (q + 1) fb (v * 10 + ω 0 (s + q) - 48) (shS ω 2 (ω 2 0 + 1)) (shS Ω 6 (Ω 6 0 + 1)) (by omega) (by omega) (by omega) (by rw [inc.2.1]; omega) (TS_inc hω (Nat.lt_of_not_le c)) (by rw [shS_f (by decide)]; exact e0) (by rw [shS_f (by decide)]; exact e1) (b_digit (by omega) hv d) (fun z => by omega)
          rw [ev]
          rw [show s + (q + 1) = s + q + 1 from rfl] at i1 i2 i3 i4 i5
          have es : shS (shS Ω 6 (Ω 6 0 + 1)) 6 (nI (g_X4_reads_12 μ fb (s + q + 1) (v * 10 + ω 0 (s + q) - 48)).1) = shS Ω 6 (nI (g_X4_reads_12 μ fb (s + q + 1) (v * 10 + ω 0 (s + q) - 48)).1) := up_up _ _ _ _
          rw [es] at i1
          have el2 : xl (shS ω 2 (ω 2 0 + 1)) = xl ω := inc.2.2
          have e02 : shS ω 2 (ω 2 0 + 1) 0 = ω 0 := shS_f (by decide)
          rw [el2, e02] at i3 i4
          exact ⟨i1, by omega, i3, i4, fun z => by omega⟩
      · rw [if_pos (show f_X4_in (ω 0 (s + q)) 48 57 = 0 by rw [in_dig]; exact d), ite_self]
        have hc : (if ω 0 (s + q) < 48 then (if q = 0 then ((-1), ω) else (v, ω)) else (if 57 < ω 0 (s + q) then (if q = 0 then ((-1), ω) else (v, ω)) else (if q = 5 then ((-1), ω) else g_X1_readNumber_4 (s_X1_skipBlanks τ) fu (q + 1) (((v * 10) + (ω 0 (s + q))) - 48) (shS ω 2 ((ω 2 0) + 1))))) = (if q = 0 then ((-1), ω) else (v, ω)) := by
          by_cases u : ω 0 (s + q) < 48
          · rw [if_pos u]
          · rw [if_neg u]
            by_cases w : 57 < ω 0 (s + q)
            · rw [if_pos w]
            · exact absurd ⟨u, w⟩ d
        exact stop (Or.inr (by rw [ha]; exact d)) _ hc
end TX

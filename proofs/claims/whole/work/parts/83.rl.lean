/-! ===== the text, read the same by both: one order ===== -/
section TO
variable {τ μ : Nat → Nat → Int32}
theorem rn_mono (t0 : Nat → Nat → Int32) : ∀ (fu q : Nat) (v : Int32) (ω : Nat → Nat → Int32), okR ω → xa ω ≤ xa (g_X1_readNumber_4 t0 fu q v ω).2 := by
  intro fu
  induction fu with
  | zero => intro q v ω h; exact Nat.le_refl _
  | succ fu ih =>
    intro q v ω h
    rw [g_X1_readNumber_4]
    have st : ∀ w : Int32, xa ω ≤ xa (w, ω).2 := fun w => Nat.le_refl _
    by_cases c : xl ω ≤ xa ω
    · rw [if_pos c]; split <;> exact st _
    rw [if_neg c]
    have i := incX_ok h (Nat.lt_of_not_le c)
    have r := ih (q + 1) (v * 10 + ω 0 (xa ω) - 48) _ i.1
    rw [i.2.1] at r
    split
    · split <;> exact st _
    · split
      · split <;> exact st _
      · split
        · exact st _
        · omega
theorem rn_stop (h : xl τ ≤ xa τ ∨ ¬ dig (τ 0 (xa τ))) : m_X1_readNumber τ = (-1, τ) := by
  unfold m_X1_readNumber
  rw [g_X1_readNumber_4, if_pos rfl]
  by_cases c : xl τ ≤ xa τ
  · rw [if_pos c]
  rw [if_neg c]
  by_cases d : τ 0 (xa τ) < 48
  · rw [if_pos d]
  rw [if_neg d]
  by_cases e : 57 < τ 0 (xa τ)
  · rw [if_pos e]
  exact absurd ⟨d, e⟩ (h.resolve_left c)
theorem pos_i (h : TS τ μ) : τ 2 0 = μ 6 0 ∧ 0 ≤ τ 2 0 := ⟨h.2.2.2.1, by rw [(TS_x h).2.2]; exact nI_pos' (by have := TS_x h; omega)⟩
/-- the reading of one order, done by both -/
def ordB (τ μ : Nat → Nat → Int32) : Prop := (m_X4_readsOrder μ 0).1 = 1 ∧ ∃ (w a : Int32) (E : Nat → Nat → Int32), (w = 0 ∨ w = 1 ∨ w = 2 ∨ w = 3 ∨ w = 4) ∧ (∀ x, m_X4_readsOrder μ x = j_X4_readsOrder_59 μ x w a (m_X4_readsOrder μ 0).2) ∧ E 4 0 = w ∧ E 5 0 = a ∧ (w = 0 ∨ w = 1 ∨ w = 2 → E 6 0 = (m_X4_readsOrder μ 0).2 7 0) ∧ TS E (m_X4_readsOrder μ 0).2 ∧ m_X1_readOrder τ = m_X1_readEndOfOrder (s_X1_skipBlanks E) ∧ xa τ + 3 ≤ xa E
def ordA (τ μ : Nat → Nat → Int32) : Prop := (m_X4_readsOrder μ 0).1 = 0 ∧ (∀ x, m_X4_readsOrder μ x = m_X4_readsOrder μ 0) ∧ (m_X1_readOrder τ).1 = (m_X4_here (m_X4_readsOrder μ 0).2).2 6 0 ∧ 0 ≤ (m_X1_readOrder τ).1
theorem fail_A {e Ω : Nat → Nat → Int32} (h : TS e Ω) (hn : nb e) : e 2 0 = (m_X4_here Ω).2 6 0 ∧ 0 ≤ e 2 0 := by
  rw [here_id h hn]
  exact pos_i h
theorem j31 (μ0 : Nat → Nat → Int32) (x w : Int32) (Ω : Nat → Nat → Int32) : j_X4_readsOrder_31 μ0 x w Ω = (if ((m_X4_reads Ω).1) = 0 then (0, (m_X4_reads Ω).2) else (if 3 ≤ w then j_X4_readsOrder_59 μ0 x w (((m_X4_reads Ω).2) 7 0) ((m_X4_reads Ω).2) else (if ((m_X4_reads ((m_X4_reads Ω).2)).1) = 0 then (0, (m_X4_reads ((m_X4_reads Ω).2)).2) else j_X4_readsOrder_59 μ0 x w (((m_X4_reads Ω).2) 7 0) ((m_X4_reads ((m_X4_reads Ω).2)).2)))) := rfl
theorem j59_0 (μ0 : Nat → Nat → Int32) (w a : Int32) (Ω : Nat → Nat → Int32) : j_X4_readsOrder_59 μ0 0 w a Ω = (1, Ω) := by unfold j_X4_readsOrder_59; rw [if_pos rfl]
theorem two_w {w : Int32} (h : w = 0 ∨ w = 1 ∨ w = 2 ∨ w = 3 ∨ w = 4) : (f_X1_takesTwo w = 0) = (3 ≤ w) := by
  rcases h with e | e | e | e | e <;> subst e <;> decide
theorem low_w {w : Int32} (h : w = 0 ∨ w = 1 ∨ w = 2 ∨ w = 3 ∨ w = 4) (h3 : ¬ 3 ≤ w) : w = 0 ∨ w = 1 ∨ w = 2 := by
  rcases h with e | e | e | e | e
  · exact Or.inl e
  · exact Or.inr (Or.inl e)
  · exact Or.inr (Or.inr e)
  · subst e; exact absurd (by decide) h3
  · subst e; exact absurd (by decide) h3
theorem word_v : (m_X1_readWord τ).1 = 0 ∨ (m_X1_readWord τ).1 = 1 ∨ (m_X1_readWord τ).1 = 2 ∨ (m_X1_readWord τ).1 = 3 ∨ (m_X1_readWord τ).1 = 4 ∨ (m_X1_readWord τ).1 = -1 := by
  unfold m_X1_readWord
  (repeat' split) <;> simp
theorem word_2 : (m_X1_readWord τ).2 = g_X1_readWord_5 τ 101 τ := by
  unfold m_X1_readWord
  (repeat' split) <;> rfl
theorem one_order (h : TS τ μ) : ordA τ μ ∨ ordB τ μ := by
  obtain ⟨hk, hnb, hmk⟩ := TS_skip h
  have x1 := TS_x hk
  obtain ⟨q1, q2⟩ := word_eq h
  have os : (m_X4_order μ).2 = (m_X4_here μ).2 := order_s
  have wv := word_v (τ := s_X1_skipBlanks τ)
  have w2 := word_2 (τ := s_X1_skipBlanks τ)
  obtain ⟨g0, g1, g2, g3, g4, g5⟩ := word_g (s_X1_skipBlanks τ) 101 (s_X1_skipBlanks τ) (by omega) hk.1
  rw [← w2] at g0 g1 g4 g5
  unfold ordA ordB m_X1_readOrder m_X4_readsOrder
  rw [q1, os]
  generalize m_X1_readWord (s_X1_skipBlanks τ) = Wd at *
  by_cases c : Wd.1 = -1
  · rw [if_pos c, if_pos c]
    simp only [if_pos c]
    refine Or.inl ⟨trivial, fun _ => trivial, ?_⟩
    with_reducible exact fail_A hk hnb
  have wc : Wd.1 = 0 ∨ Wd.1 = 1 ∨ Wd.1 = 2 ∨ Wd.1 = 3 ∨ Wd.1 = 4 := by
    rcases wv with e | e | e | e | e | e
    · exact Or.inl e
    · exact Or.inr (Or.inl e)
    · exact Or.inr (Or.inr (Or.inl e))
    · exact Or.inr (Or.inr (Or.inr (Or.inl e)))
    · exact Or.inr (Or.inr (Or.inr (Or.inr e)))
    · exact absurd e c
  have hpos := q2 c
  -- the model's place behind the word
  have hM : ∀ x, (if Wd.1 = 2 then j_X4_readsOrder_31 μ x Wd.1 (shS (m_X4_here μ).2 6 ((m_X4_here μ).2 6 0 + 3)) else j_X4_readsOrder_31 μ x Wd.1 (shS (m_X4_here μ).2 6 ((m_X4_here μ).2 6 0 + 4))) = j_X4_readsOrder_31 μ x Wd.1 (shS (m_X4_here μ).2 6 (nI (xa Wd.2))) := by
    intro x
    have e60 : (m_X4_here μ).2 6 0 = nI (xa (s_X1_skipBlanks τ)) := by rw [← hk.2.2.2.1, x1.2.2]
    by_cases d : Wd.1 = 2
    · rw [if_pos d] at hpos
      rw [if_pos d, hpos, e60]
      rw [show nI (xa (s_X1_skipBlanks τ)) + 3 = nI (xa (s_X1_skipBlanks τ) + 3) from nI_add _ 3]
    · rw [if_neg d] at hpos
      rw [if_neg d, hpos, e60]
      rw [show nI (xa (s_X1_skipBlanks τ)) + 4 = nI (xa (s_X1_skipBlanks τ) + 4) from nI_add _ 4]
  simp only [if_neg c, hM]
  have hA : TS (shS Wd.2 4 Wd.1) (shS (m_X4_here μ).2 6 (nI (xa Wd.2))) := by
    have hw : TS Wd.2 (shS (m_X4_here μ).2 6 (nI (xa Wd.2))) := by
      refine ⟨g0, fun k hk2 => ?_, ?_, ?_, fun k => ?_⟩
      · rw [shS_f (by decide), g4]; exact hk.2.1 k hk2
      · rw [shS_f (by decide), g5]; exact hk.2.2.1
      · rw [shS_eq]; exact g0.2.1
      · rw [g4]; exact hk.2.2.2.2 k
    exact TS_f hw rfl rfl rfl rfl rfl rfl
  have hA4 : (shS Wd.2 4 Wd.1) 4 0 = Wd.1 := shS_eq
  have hAx : xa τ + 3 ≤ xa (shS Wd.2 4 Wd.1) := by
    show xa τ + 3 ≤ xa Wd.2
    split at hpos <;> omega
  generalize shS Wd.2 4 Wd.1 = A at *
  generalize shS (m_X4_here μ).2 6 (nI (xa Wd.2)) = M1 at *
  generalize Wd.1 = w at *
  obtain ⟨t1, t2⟩ := TS_reads hA
  have f4 : (m_X1_readNumber (s_X1_skipBlanks A)).2 4 0 = w := by rw [readNumber_f (by decide), skipBlanks_f (by decide)]; exact hA4
  have mo1 : xa A ≤ xa (m_X1_readNumber (s_X1_skipBlanks A)).2 := Nat.le_trans (TS_skip hA).2.2 (rn_mono _ _ _ _ _ (TS_skip hA).1.1)
  simp only [j31]
  generalize m_X1_readNumber (s_X1_skipBlanks A) = r1 at *
  generalize m_X4_reads M1 = m1 at *
  rcases t2 with ⟨a1, a2, a3⟩ | ⟨a1, a2, a3, a4⟩
  · simp only [if_pos a1, if_pos a2]
    refine Or.inl ⟨trivial, fun _ => trivial, ?_⟩
    with_reducible exact fail_A t1 a3
  have nz : ¬ m1.1 = 0 := by rw [a1]; decide
  have nm : ¬ r1.1 = -1 := by
    intro z
    rw [z] at a3
    exact absurd a3.1 (by decide)
  have tB : TS (shS r1.2 5 r1.1) m1.2 := TS_f t1 rfl rfl rfl rfl rfl rfl
  have hB4 : (shS r1.2 5 r1.1) 4 0 = w := f4
  have hB5 : (shS r1.2 5 r1.1) 5 0 = m1.2 7 0 := shS_eq.trans a2
  have hB2 : (shS r1.2 5 r1.1) 2 0 = r1.2 2 0 := rfl
  have hBx : xa τ + 3 ≤ xa (shS r1.2 5 r1.1) := Nat.le_trans hAx mo1
  have hBd : xl (shS r1.2 5 r1.1) ≤ xa (shS r1.2 5 r1.1) ∨ ¬ dig ((shS r1.2 5 r1.1) 0 (xa (shS r1.2 5 r1.1))) := a4
  simp only [if_neg nz, if_neg nm, f4, two_w wc]
  generalize shS r1.2 5 r1.1 = Bs at *
  by_cases d : 3 ≤ w
  · simp only [if_pos d, j59_0]
    refine Or.inr ⟨trivial, w, m1.2 7 0, Bs, wc, fun x => rfl, hB4, hB5, fun z => ?_, tB, rfl, hBx⟩
    rcases z with z | z | z <;> subst z <;> exact absurd d (by decide)
  simp only [if_neg d]
  by_cases e : f_X1_here Bs = 32
  · simp only [if_pos e]
    obtain ⟨u1, u2⟩ := TS_reads tB
    have k4 : (m_X1_readNumber (s_X1_skipBlanks Bs)).2 4 0 = w := by rw [readNumber_f (by decide), skipBlanks_f (by decide)]; exact hB4
    have k5 : (m_X1_readNumber (s_X1_skipBlanks Bs)).2 5 0 = m1.2 7 0 := by rw [readNumber_f (by decide), skipBlanks_f (by decide)]; exact hB5
    have mo2 : xa Bs ≤ xa (m_X1_readNumber (s_X1_skipBlanks Bs)).2 := Nat.le_trans (TS_skip tB).2.2 (rn_mono _ _ _ _ _ (TS_skip tB).1.1)
    generalize m_X1_readNumber (s_X1_skipBlanks Bs) = r2 at *
    generalize m_X4_reads m1.2 = m2 at *
    rcases u2 with ⟨b1, b2, b3⟩ | ⟨b1, b2, b3, b4⟩
    · simp only [if_pos b1, if_pos b2]
      refine Or.inl ⟨trivial, fun _ => trivial, ?_⟩
      with_reducible exact fail_A u1 b3
    · have nz2 : ¬ m2.1 = 0 := by rw [b1]; decide
      have nm2 : ¬ r2.1 = -1 := by
        intro z
        rw [z] at b3
        exact absurd b3.1 (by decide)
      simp only [if_neg nz2, if_neg nm2, j59_0]
      exact Or.inr ⟨trivial, w, m1.2 7 0, shS r2.2 6 r2.1, wc, fun x => rfl, k4, k5, fun _ => shS_eq.trans b2, TS_f u1 rfl rfl rfl rfl rfl rfl, rfl, Nat.le_trans hBx mo2⟩
  · simp only [if_neg e]
    have hnB : nb Bs := by
      unfold f_X1_here at e
      by_cases z : xl Bs ≤ xa Bs
      · exact Or.inl z
      · rw [if_neg z] at e; exact Or.inr e
    obtain ⟨u1, u2⟩ := TS_reads tB
    rw [skip_id hnB, rn_stop hBd] at u1 u2
    have b1 : (m_X4_reads m1.2).1 = 0 := by
      rcases u2 with z | z
      · exact z.1
      · exact absurd z.2.2.1.1 (by show ¬ (0 : Int) ≤ (-1 : Int32).toInt; decide)
    simp only [if_pos b1]
    refine Or.inl ⟨trivial, fun _ => trivial, ?_⟩
    have u1' : TS Bs (m_X4_reads m1.2).2 := u1
    rw [← hB2]
    with_reducible exact fail_A u1' hnB
end TO

/-! ===== the text, read the same by both: numbers and words ===== -/
section TY
variable {τ μ : Nat → Nat → Int32}
theorem TS_reads (h : TS τ μ) : TS (m_X1_readNumber (s_X1_skipBlanks τ)).2 (m_X4_reads μ).2 ∧ (((m_X4_reads μ).1 = 0 ∧ (m_X1_readNumber (s_X1_skipBlanks τ)).1 = -1 ∧ nb (m_X1_readNumber (s_X1_skipBlanks τ)).2) ∨ ((m_X4_reads μ).1 = 1 ∧ (m_X1_readNumber (s_X1_skipBlanks τ)).1 = (m_X4_reads μ).2 7 0 ∧ bnd (m_X1_readNumber (s_X1_skipBlanks τ)).1 0 99999 ∧ (xl (m_X1_readNumber (s_X1_skipBlanks τ)).2 ≤ xa (m_X1_readNumber (s_X1_skipBlanks τ)).2 ∨ ¬ dig ((m_X1_readNumber (s_X1_skipBlanks τ)).2 0 (xa (m_X1_readNumber (s_X1_skipBlanks τ)).2))))) := by
  obtain ⟨hk, hnb, -⟩ := TS_skip h
  have x1 := TS_x hk
  have es : ta (m_X4_here μ).2 = xa (s_X1_skipBlanks τ) := TS_a hk
  have el : tl (m_X4_here μ).2 = xl (s_X1_skipBlanks τ) := TS_l hk
  obtain ⟨i1, i2, i3, i4, -⟩ := num_g h (s := xa (s_X1_skipBlanks τ)) rfl 101 0 101 0 (s_X1_skipBlanks τ) (m_X4_here μ).2 (by omega) (by omega) (by omega) rfl hk rfl rfl ⟨by decide, by decide⟩ (fun _ => rfl)
  rw [Nat.add_zero] at i1 i2 i3 i4
  have eb := (reads_g (b := 100) (μ := μ) (Nat.le_refl _) (by rw [el]; exact x1.1) 101 (xa (s_X1_skipBlanks τ)) 0 (by omega)).2
  have e60 : (m_X4_here μ).2 6 0 = nI (xa (s_X1_skipBlanks τ)) := by rw [← hk.2.2.2.1, x1.2.2]
  have hm2 : (m_X4_reads μ).2 = shS (shS ((m_X4_here μ).2) 6 (nI ((g_X4_reads_12 μ 101 (ta ((m_X4_here μ).2)) 0).1))) 7 ((g_X4_reads_12 μ 101 (ta ((m_X4_here μ).2)) 0).2) := by
    unfold m_X4_reads
    (repeat' split) <;> rfl
  have hts : TS (m_X1_readNumber (s_X1_skipBlanks τ)).2 (m_X4_reads μ).2 := by
    rw [hm2, es]
    exact TS_f i1 rfl rfl rfl (shS_f (by decide)) (shS_f (by decide)) (shS_f (by decide))
  refine ⟨hts, ?_⟩
  have r0 : (m_X1_readNumber (s_X1_skipBlanks τ)).2 0 = (s_X1_skipBlanks τ) 0 := readNumber_f (by decide)
  have r1 : xl (m_X1_readNumber (s_X1_skipBlanks τ)).2 = xl (s_X1_skipBlanks τ) := congrArg (fun g : Nat → Int32 => tn (g 0)) (readNumber_f (f := 1) (by decide))
  have ra : xa (m_X1_readNumber (s_X1_skipBlanks τ)).2 = (g_X4_reads_12 μ 101 (xa (s_X1_skipBlanks τ)) 0).1 := by
    rw [← TS_a hts, hm2, es]
    show tn (nI (g_X4_reads_12 μ 101 (xa (s_X1_skipBlanks τ)) 0).1) = _
    exact tn_nI (by omega)
  unfold nb
  rw [r0, r1, ra, hm2]
  rw [show shS (shS ((m_X4_here μ).2) 6 (nI ((g_X4_reads_12 μ 101 (ta ((m_X4_here μ).2)) 0).1))) 7 ((g_X4_reads_12 μ 101 (ta ((m_X4_here μ).2)) 0).2) 7 0 = (g_X4_reads_12 μ 101 (ta ((m_X4_here μ).2)) 0).2 from shS_eq]
  unfold m_X4_reads
  rw [es, e60, el, show nI (xa (s_X1_skipBlanks τ)) + 5 = nI (xa (s_X1_skipBlanks τ) + 5) from nI_add _ 5]
  show (_ ∧ (g_X1_readNumber_4 (s_X1_skipBlanks τ) 101 0 0 (s_X1_skipBlanks τ)).1 = -1 ∧ _) ∨ (_ ∧ (g_X1_readNumber_4 (s_X1_skipBlanks τ) 101 0 0 (s_X1_skipBlanks τ)).1 = _ ∧ bnd (g_X1_readNumber_4 (s_X1_skipBlanks τ) 101 0 0 (s_X1_skipBlanks τ)).1 0 99999 ∧ _)
  have eH : ∀ k, k < xl (s_X1_skipBlanks τ) → (m_X4_here μ).2 4 k = (s_X1_skipBlanks τ) 0 k := fun k hk2 => TS_b hk hk2
  generalize g_X4_reads_12 μ 101 (xa (s_X1_skipBlanks τ)) 0 = E at *
  generalize g_X1_readNumber_4 (s_X1_skipBlanks τ) 101 0 0 (s_X1_skipBlanks τ) = R at *
  by_cases c : E.1 ≤ xa (s_X1_skipBlanks τ)
  · rw [if_pos c]
    refine Or.inl ⟨rfl, i3 (Or.inl c), ?_⟩
    have : E.1 = xa (s_X1_skipBlanks τ) := by omega
    rw [this]
    exact hnb
  rw [if_neg c]
  have good : ¬ (E.1 ≤ xa (s_X1_skipBlanks τ) ∨ E.1 = xa (s_X1_skipBlanks τ) + 5 ∧ xa (s_X1_skipBlanks τ) + 5 < xl (s_X1_skipBlanks τ) ∧ dig ((s_X1_skipBlanks τ) 0 (xa (s_X1_skipBlanks τ) + 5))) → R.1 = E.2 ∧ bnd R.1 0 99999 ∧ (xl (s_X1_skipBlanks τ) ≤ E.1 ∨ ¬ dig ((s_X1_skipBlanks τ) 0 E.1)) := by
    intro z
    obtain ⟨a1, a2, a3⟩ := i4 z
    exact ⟨a1, by rw [a1]; exact a2, a3⟩
  by_cases d : E.1 = xa (s_X1_skipBlanks τ) + 5
  · rw [if_pos (congrArg nI d)]
    by_cases e : xl (s_X1_skipBlanks τ) ≤ E.1
    · rw [if_pos e]
      exact Or.inr ⟨rfl, good (fun z => z.elim c (fun z => by omega))⟩
    · rw [if_neg e, eH _ (Nat.lt_of_not_le e)]
      by_cases f : dig ((s_X1_skipBlanks τ) 0 E.1)
      · rw [if_neg (show ¬ f_X4_in ((s_X1_skipBlanks τ) 0 E.1) 48 57 = 0 by rw [in_dig]; exact fun z => z f)]
        refine Or.inl ⟨rfl, i3 (Or.inr ⟨d, by omega, by rw [← d]; exact f⟩), Or.inr (fun z => ?_)⟩
        rw [z] at f
        exact absurd f (fun q => q.1 (by decide))
      · rw [if_pos (show f_X4_in ((s_X1_skipBlanks τ) 0 E.1) 48 57 = 0 by rw [in_dig]; exact f)]
        exact Or.inr ⟨rfl, good (fun z => z.elim c (fun z => f (by rw [d]; exact z.2.2)))⟩
  · rw [if_neg (fun z => d ((nI_eq (by omega) (by omega)).mp z))]
    exact Or.inr ⟨rfl, good (fun z => z.elim c (fun z => d z.1))⟩
/-! words -/
def ltr (x : Int32) : Prop := ¬ x < 97 ∧ ¬ 122 < x
theorem in_ltr (x : Int32) : (f_X4_in x 97 122 = 0) = ¬ ltr x := by
  unfold f_X4_in ltr
  by_cases c : x < 97
  · simp [c]
  · by_cases d : 122 < x <;> simp [c, d]
theorem ltr_i {x : Int32} (h : ltr x) : 97 ≤ x.toInt ∧ x.toInt ≤ 122 := by
  have d1 := h.1
  have d2 := h.2
  rw [Int32.lt_iff_toInt_lt, show (97 : Int32).toInt = 97 by decide] at d1
  rw [Int32.lt_iff_toInt_lt, show (122 : Int32).toInt = 122 by decide] at d2
  omega
/-- where the letters end -/
theorem word_g (t0 : Nat → Nat → Int32) : ∀ (fu : Nat) (ω : Nat → Nat → Int32), xl ω - xa ω < fu → okR ω → okR (g_X1_readWord_5 t0 fu ω) ∧ xa ω ≤ xa (g_X1_readWord_5 t0 fu ω) ∧ (∀ j, xa ω ≤ j → j < xa (g_X1_readWord_5 t0 fu ω) → ltr (ω 0 j)) ∧ (xl ω ≤ xa (g_X1_readWord_5 t0 fu ω) ∨ ¬ ltr (ω 0 (xa (g_X1_readWord_5 t0 fu ω)))) ∧ g_X1_readWord_5 t0 fu ω 0 = ω 0 ∧ g_X1_readWord_5 t0 fu ω 1 = ω 1 := by
  intro fu
  induction fu with
  | zero => intro ω q; omega
  | succ fu ih =>
    intro ω q h
    have stop : (xl ω ≤ xa ω ∨ ¬ ltr (ω 0 (xa ω))) → okR ω ∧ xa ω ≤ xa ω ∧ (∀ j, xa ω ≤ j → j < xa ω → ltr (ω 0 j)) ∧ (xl ω ≤ xa ω ∨ ¬ ltr (ω 0 (xa ω))) ∧ ω 0 = ω 0 ∧ ω 1 = ω 1 := fun z => ⟨h, Nat.le_refl _, fun j a b => by omega, z, rfl, rfl⟩
    rw [g_X1_readWord_5]
    by_cases c : xl ω ≤ xa ω
    · rw [if_pos c]; exact stop (Or.inl c)
    rw [if_neg c]
    by_cases d : ω 0 (xa ω) < 97
    · rw [if_pos d]; exact stop (Or.inr (fun z => z.1 d))
    rw [if_neg d]
    by_cases e : 122 < ω 0 (xa ω)
    · rw [if_pos e]; exact stop (Or.inr (fun z => z.2 e))
    rw [if_neg e]
    have i := incX_ok h (Nat.lt_of_not_le c)
    obtain ⟨a0, a1, a2, a3, a4, a5⟩ := ih (shS ω 2 (ω 2 0 + 1)) (by rw [i.2.1, i.2.2]; omega) i.1
    have b0 : shS ω 2 (ω 2 0 + 1) 0 = ω 0 := shS_f (by decide)
    have b1 : shS ω 2 (ω 2 0 + 1) 1 = ω 1 := shS_f (by decide)
    rw [b0] at a2 a3 a4
    rw [b1] at a5
    rw [i.2.1] at a1 a2
    rw [i.2.2] at a3
    refine ⟨a0, by omega, fun j h1 h2 => ?_, a3, a4, a5⟩
    by_cases f : j = xa ω
    · rw [f]; exact ⟨d, e⟩
    · exact a2 j (by omega) h2
def wl (B : Nat → Int32) (s : Nat) : Nat → Int
  | 0 => 0
  | i + 1 => 27 * wl B s i + ((B (s + i)).toInt - 96)
def p27 : Nat → Int
  | 0 => 1
  | i + 1 => 27 * p27 i
theorem p27_le {i : Nat} (h : i ≤ 5) : p27 i ≤ 14348907 := by
  match i, h with
  | 0, _ => decide
  | 1, _ => decide
  | 2, _ => decide
  | 3, _ => decide
  | 4, _ => decide
  | 5, _ => decide
theorem wl_b {B : Nat → Int32} {s : Nat} : ∀ c, (∀ j, j < c → ltr (B (s + j))) → 0 ≤ wl B s c ∧ wl B s c ≤ p27 c - 1 := by
  intro c
  induction c with
  | zero => intro _; exact ⟨Int.le_refl _, by show (0 : Int) ≤ 1 - 1; decide⟩
  | succ c ih =>
    intro h
    have i := ih (fun j hj => h j (by omega))
    have l := ltr_i (h c (by omega))
    rw [wl, p27]
    omega
theorem wordM_g (h : TS τ μ) {c : Nat} (hlen : xa (s_X1_skipBlanks τ) + c ≤ xl (s_X1_skipBlanks τ)) (hL : ∀ j, j < c → ltr ((s_X1_skipBlanks τ) 0 (xa (s_X1_skipBlanks τ) + j))) (hE : xl (s_X1_skipBlanks τ) ≤ xa (s_X1_skipBlanks τ) + c ∨ ¬ ltr ((s_X1_skipBlanks τ) 0 (xa (s_X1_skipBlanks τ) + c))) : ∀ (fu i : Nat) (v : Int32), 6 ≤ fu + i → i ≤ c → i ≤ 5 → v.toInt = wl ((s_X1_skipBlanks τ) 0) (xa (s_X1_skipBlanks τ)) i → (g_X4_word_12 μ fu (xa (s_X1_skipBlanks τ) + i) v).toInt = wl ((s_X1_skipBlanks τ) 0) (xa (s_X1_skipBlanks τ)) (if c ≤ 5 then c else 5) := by
  obtain ⟨hk, -, -⟩ := TS_skip h
  have x1 := TS_x hk
  have e60 : (m_X4_here μ).2 6 0 = nI (xa (s_X1_skipBlanks τ)) := by rw [← hk.2.2.2.1, x1.2.2]
  have el : tl (m_X4_here μ).2 = xl (s_X1_skipBlanks τ) := TS_l hk
  have hhi := here_hi h
  have eB : ∀ k, k < xl (s_X1_skipBlanks τ) → (m_X4_here μ).2 4 k = (s_X1_skipBlanks τ) 0 k := fun k hk2 => TS_b hk hk2
  generalize s_X1_skipBlanks τ = t at *
  intro fu
  induction fu with
  | zero => intro i v q1 q2 q3; omega
  | succ fu ih =>
    intro i v q1 q2 q3 hv
    rw [g_X4_word_12, el, e60, show nI (xa t) + 5 = nI (xa t + 5) from nI_add _ 5]
    by_cases a : i = c
    · have ec : (if c ≤ 5 then c else 5) = i := by rw [if_pos (by omega), a]
      rw [ec]
      by_cases b : xl t ≤ xa t + i
      · rw [if_pos b, ite_self]; exact hv
      · rw [if_neg b, eB _ (by omega)]
        rw [← a] at hE
        rw [if_pos (show f_X4_in (t 0 (xa t + i)) 97 122 = 0 by rw [in_ltr]; exact hE.resolve_left b), ite_self, ite_self]
        exact hv
    · have hlt : xa t + i < xl t := by omega
      have k0 : ¬ (m_X4_here μ).1 < 0 := by rw [hhi]; omega
      rw [if_neg k0, if_neg (by omega)]
      by_cases b : i = 5
      · subst b
        rw [if_pos (Int32.le_refl _), if_neg (show ¬ c ≤ 5 by omega)]
        exact hv
      · rw [if_neg (show ¬ nI (xa t + 5) ≤ nI (xa t + i) from nI_ge (by omega) (by omega)), eB _ hlt]
        have l := hL i (by omega)
        rw [if_neg (show ¬ f_X4_in (t 0 (xa t + i)) 97 122 = 0 by rw [in_ltr]; exact fun z => z l)]
        have li := ltr_i l
        have wb := wl_b (B := t 0) (s := xa t) i (fun j hj => hL j (by omega))
        have pb : 27 * p27 i ≤ 14348907 := p27_le (i := i + 1) (by omega)
        have m := b_mul (a := 27) (b := v) (m := 27) (n := 14348907) ⟨by decide, by decide⟩ ⟨by omega, by omega⟩ (by decide)
        have l27 : (27 : Int32).toInt = 27 := by decide
        have l97 : (97 : Int32).toInt = 97 := by decide
        have l1 : (1 : Int32).toInt = 1 := by decide
        have e1 := i_add (a := 27 * v) (b := t 0 (xa t + i)) (by rw [m.1, l27]; omega) (by rw [m.1, l27]; omega) (by omega) (by omega)
        rw [m.1, l27] at e1
        have e2 := i_sub (a := 27 * v + t 0 (xa t + i)) (b := 97) (by omega) (by omega) (by omega) (by omega)
        have e3 := i_add (a := 27 * v + t 0 (xa t + i) - 97) (b := 1) (by omega) (by omega) (by omega) (by omega)
        refine ih (i + 1) _ (by omega) (by omega) (by omega) ?_
        rw [e3, e2, e1, wl, hv, l97, l1]
        omega
theorem stands_g {W : Nat → Nat → Int32} {k s : Nat} : ∀ (fu i : Nat), sLen.getD k 0 - i < fu → s + sLen.getD k 0 ≤ xl W → (g_X1_stands_17 W k s fu i = 0) = ¬ ∀ j, i ≤ j → j < sLen.getD k 0 → W 0 (s + j) = sCh k j := by
  intro fu
  induction fu with
  | zero => intro i q; omega
  | succ fu ih =>
    intro i q hx
    rw [g_X1_stands_17]
    by_cases a : sLen.getD k 0 ≤ i
    · rw [if_pos a]
      exact propext ⟨fun z => absurd z (by decide), fun z => absurd (fun j h1 h2 => by omega) z⟩
    rw [if_neg a, if_neg (by omega)]
    by_cases b : W 0 (s + i) = sCh k i
    · rw [if_pos b, ih (i + 1) (by omega) hx]
      refine propext ⟨fun z y => z (fun j h1 h2 => y j (by omega) h2), fun z y => z (fun j h1 h2 => ?_)⟩
      by_cases c : j = i
      · rw [c]; exact b
      · exact y j (by omega) h2
    · rw [if_neg b]
      exact propext ⟨fun _ y => b (y i (Nat.le_refl _) (by omega)), fun _ => rfl⟩
end TY

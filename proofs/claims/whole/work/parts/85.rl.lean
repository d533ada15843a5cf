/-! ===== the orders, carried out the same by both ===== -/
def crP (σ Ω : Nat → Nat → Int32) (C w : MS) : Prop := (C.1 < 0 ∧ C.2 = Ω ∧ w.1 < 0 ∧ w.2 = σ) ∨ (¬ C.1 < 0 ∧ ¬ w.1 < 0 ∧ rl w.2 (C.2 0) ∧ fr Ω C.2)
section TC
variable {σ τ μ Ω : Nat → Nat → Int32}
theorem al_cr {w : MS} {code : Int32} {op : (Nat → Nat → Int32) → MS} (ha : alike σ w code op) (h : rl σ (Ω 0)) : crP σ Ω (if code = 0 then ((op Ω).1, (op Ω).2) else (code, Ω)) w := by
  rcases ha with ⟨h0, h1, h2⟩ | ⟨h0, h1, h2⟩
  · rw [if_neg h0, h2]; exact Or.inl ⟨h1, rfl, h1, rfl⟩
  · rw [if_pos h0]
    obtain ⟨a, b, c⟩ := h2 Ω h
    have n : ¬ w.1 < 0 := Int32.not_lt.mpr h1
    exact Or.inr ⟨by show ¬ (op Ω).1 < 0; rw [a]; exact n, n, b, c⟩
theorem carry (h : rl σ (Ω 0)) {w a z : Int32} {t : Nat → Nat → Int32} (hw : w = 0 ∨ w = 1 ∨ w = 2 ∨ w = 3 ∨ w = 4) (h4 : t 4 0 = w) (h5 : t 5 0 = a) (h6 : w = 0 ∨ w = 1 ∨ w = 2 → t 6 0 = z) : crP σ Ω (m_X4_carries Ω w a z) (m_X3_carryOut σ t) := by
  unfold m_X4_carries m_X3_carryOut
  rw [h4, h5]
  rcases hw with e | e | e | e | e
  · subst e
    rw [if_pos rfl, if_pos rfl, h6 (Or.inl rfl)]
    with_reducible exact al_cr (a_rent h a z) h
  · subst e
    rw [if_neg (show ¬ (1 : Int32) = 0 by decide), if_pos (show (1 : Int32) = 1 from rfl), if_neg (show ¬ (1 : Int32) = 0 by decide), if_pos (show (1 : Int32) = 1 from rfl), h6 (Or.inr (Or.inl rfl))]
    with_reducible exact al_cr (a_give h a z) h
  · subst e
    rw [if_neg (show ¬ (2 : Int32) = 0 by decide), if_neg (show ¬ (2 : Int32) = 1 by decide), if_pos (show (2 : Int32) = 2 from rfl), if_neg (show ¬ (2 : Int32) = 0 by decide), if_neg (show ¬ (2 : Int32) = 1 by decide), if_pos (show (2 : Int32) = 2 from rfl), h6 (Or.inr (Or.inr rfl))]
    with_reducible exact al_cr (a_buy h a z) h
  · subst e
    rw [if_neg (show ¬ (3 : Int32) = 0 by decide), if_neg (show ¬ (3 : Int32) = 1 by decide), if_neg (show ¬ (3 : Int32) = 2 by decide), if_pos (show (3 : Int32) = 3 from rfl), if_neg (show ¬ (3 : Int32) = 0 by decide), if_neg (show ¬ (3 : Int32) = 1 by decide), if_neg (show ¬ (3 : Int32) = 2 by decide), if_pos (show (3 : Int32) = 3 from rfl)]
    with_reducible exact al_cr (a_sell h a) h
  · subst e
    rw [if_neg (show ¬ (4 : Int32) = 0 by decide), if_neg (show ¬ (4 : Int32) = 1 by decide), if_neg (show ¬ (4 : Int32) = 2 by decide), if_neg (show ¬ (4 : Int32) = 3 by decide), if_neg (show ¬ (4 : Int32) = 0 by decide), if_neg (show ¬ (4 : Int32) = 1 by decide), if_neg (show ¬ (4 : Int32) = 2 by decide), if_neg (show ¬ (4 : Int32) = 3 by decide)]
    with_reducible exact al_cr (a_pass h a) h
/-- when an order could not be carried out, the rest is read only -/
theorem ro_j1 {f : Nat} (hf : f ≠ 6) (hf7 : f ≠ 7) (w : Int32) (h9 : Ω 9 0 = 0) : fq f (Ω f) (j_X4_readsOrder_31 μ 1 w Ω) := by
  have hr : ∀ (g : Nat), g ≠ 6 → g ≠ 7 → ∀ Ω : Nat → Nat → Int32, (m_X4_reads Ω).2 g = Ω g := fun g g6 g7 Ω => reads_f g6 g7
  have h1 := hr f hf hf7 Ω
  have h2 : (m_X4_reads (m_X4_reads Ω).2).2 f = Ω f := (hr f hf hf7 _).trans h1
  have n1 : (m_X4_reads Ω).2 9 0 = 0 := by rw [hr 9 (by decide) (by decide)]; exact h9
  have n2 : (m_X4_reads (m_X4_reads Ω).2).2 9 0 = 0 := by rw [hr 9 (by decide) (by decide)]; exact n1
  have j : ∀ (a : Int32) (A : Nat → Nat → Int32), A 9 0 = 0 → j_X4_readsOrder_59 μ 1 w a A = (1, A) := fun a A hA => by unfold j_X4_readsOrder_59; rw [if_neg (by decide), if_pos hA]
  rw [j31, j _ _ n1, j _ _ n2]
  refine ite_ind (fq f (Ω f)) (fun _ => ?_) (fun _ => ite_ind (fq f (Ω f)) (fun _ => ?_) (fun _ => ite_ind (fq f (Ω f)) (fun _ => ?_) (fun _ => ?_)))
  · with_reducible exact fq_p h1
  · with_reducible exact fq_p h1
  · with_reducible exact fq_p h2
  · with_reducible exact fq_p h2
theorem ro_f1 {f : Nat} (hf : f ≠ 6) (hf7 : f ≠ 7) (h9 : μ 9 0 = 0) : (m_X4_readsOrder μ 1).2 f = μ f := by
  have ho : ∀ g : Nat, g ≠ 6 → (m_X4_order μ).2 g = μ g := fun g g6 => by rw [order_s]; exact here_f g6
  have h3 : ∀ (w v : Int32), fq f (μ f) (j_X4_readsOrder_31 μ 1 w (shS (m_X4_order μ).2 6 v)) := fun w v => fq_z ((fq_u (ro_j1 hf hf7 w (by rw [shS_f (by decide), ho 9 (by decide)]; exact h9))).trans ((shS_f hf).trans (ho f hf)))
  have ho' := ho f hf
  refine fq_u ?_
  unfold m_X4_readsOrder
  refine ite_ind (fq f (μ f)) (fun _ => ?_) (fun _ => ite_ind (fq f (μ f)) (fun _ => ?_) (fun _ => ?_))
  · with_reducible exact fq_p ho'
  · with_reducible exact h3 _ _
  · with_reducible exact h3 _ _
theorem rt_g1 (m0 : Nat → Nat → Int32) {f : Nat} (hf : f ≠ 6) (hf7 : f ≠ 7) : ∀ (fa : Nat) (x2 x3 : Int32) (Ω : Nat → Nat → Int32), Ω 9 0 = 0 → fq f (Ω f) (g_X4_readsText_26 m0 1 fa x2 x3 Ω) := by
  intro fa
  induction fa with
  | zero => intro x2 x3 Ω _; rfl
  | succ fa ih =>
    intro x2 x3 Ω h9
    have h1 : fq f (Ω f) (x2, Ω) := rfl
    have e : ∀ g : Nat, g ≠ 6 → g ≠ 7 → (m_X4_here (m_X4_readsOrder (shS Ω 6 (Ω 6 0 + 1)) 1).2).2 g = Ω g := fun g g6 g7 => by rw [here_f g6, ro_f1 g6 g7 (by rw [shS_f (by decide)]; exact h9), shS_f g6]
    have h3 : ∀ u v : Int32, fq f (Ω f) (g_X4_readsText_26 m0 1 fa u v (m_X4_here (m_X4_readsOrder (shS Ω 6 (Ω 6 0 + 1)) 1).2).2) := fun u v => fq_z ((fq_u (ih u v _ (by rw [e 9 (by decide) (by decide)]; exact h9))).trans (e f hf hf7))
    have h4 := ih 0 x3 Ω h9
    rw [g_X4_readsText_26]
    refine ite_ind (fq f (Ω f)) (fun _ => ?_) (fun _ => ite_ind (fq f (Ω f)) (fun _ => ?_) (fun _ => ite_ind (fq f (Ω f)) (fun _ => ?_) (fun _ => ?_)))
    · with_reducible exact h1
    · with_reducible exact h1
    · with_reducible exact h3 _ _
    · with_reducible exact h4
theorem j59_g (w a : Int32) (h9 : Ω 9 0 = 1) : j_X4_readsOrder_59 μ 1 w a Ω = (if (m_X4_carries Ω w a (Ω 7 0)).1 < 0 then (1, (shS (shS (m_X4_carries Ω w a (Ω 7 0)).2 9 0) 8 ((m_X4_carries Ω w a (Ω 7 0)).2 8 0 + 0))) else (1, (shS (shS (m_X4_carries Ω w a (Ω 7 0)).2 9 1) 8 ((m_X4_carries Ω w a (Ω 7 0)).2 8 0 + 1)))) := by
  unfold j_X4_readsOrder_59
  rw [if_neg (by decide), if_neg (by rw [h9]; decide)]
def ordP (i : Nat) (ω2 Ω P : Nat → Nat → Int32) (Q : Nat × (Nat → Nat → Int32) × (Nat → Nat → Int32)) : Prop :=
  P 8 0 = nI Q.1 ∧ Q.1 ≤ 100 ∧ rl Q.2.2 (P 0) ∧ (∀ j, 413 ≤ j → P 0 j = Ω 0 j) ∧ (∀ f, f ≠ 0 → f < 6 → P f = Ω f) ∧ Q.2.1 0 = ω2 0 ∧ Q.2.1 1 = ω2 1
theorem orders_g (t0 m0 : Nat → Nat → Int32) : ∀ (fu i fa fv : Nat) (ω1 ω2 Ω σ : Nat → Nat → Int32), 101 ≤ fu + i → 203 ≤ fa + i → 102 ≤ fv + i → i ≤ xa ω2 → ω1 3 0 ≠ 0 → ω2 3 0 ≠ 0 → TS ω1 Ω → TS ω2 Ω → (g_X1_faultOf_6 t0 fv i ω1).1 = -1 → rl σ (Ω 0) → Ω 8 0 = nI i → Ω 9 0 = 1 →
    ordP i ω2 Ω (g_X4_readsText_26 m0 1 fa (m_X4_readsOrder Ω 1).1 (m_X4_here (m_X4_readsOrder Ω 1).2).1 (m_X4_here (m_X4_readsOrder Ω 1).2).2).2 (g_X3_orders fu i ω2 σ) := by
  intro fu
  induction fu with
  | zero =>
    intro i fa fv ω1 ω2 Ω σ q1 q2 q3 q4 _ _ _ h2
    have := TS_x h2
    omega
  | succ fu ih =>
    intro i fa fv ω1 ω2 Ω σ q1 q2 q3 q4 n1 n2 h1 h2 hF hr h8 h9
    have x2 := TS_x h2
    have x1 := TS_x h1
    have xe : xa ω1 = xa ω2 := (TS_a h1).symm.trans (TS_a h2)
    obtain ⟨fb, rfl⟩ : ∃ fb, fa = fb + 1 := ⟨fa - 1, by omega⟩
    obtain ⟨fc, rfl⟩ : ∃ fc, fb = fc + 1 := ⟨fb - 1, by omega⟩
    obtain ⟨fw, rfl⟩ : ∃ fw, fv = fw + 1 := ⟨fv - 1, by omega⟩
    rw [g_X1_faultOf_6, if_neg (show ¬ 100 < i by omega), if_neg n1] at hF
    have hF1 : (m_X1_readOrder ω1).1 = -1 ∧ (g_X1_faultOf_6 t0 fw (i + 1) (m_X1_readOrder ω1).2).1 = -1 := by
      by_cases c : (m_X1_readOrder ω1).1 = -1
      · rw [if_pos c] at hF; exact ⟨c, hF⟩
      · rw [if_neg c] at hF; exact absurd hF c
    obtain ⟨hF1, hF2⟩ := hF1
    rcases one_order h1 with ⟨a1, a2, a3, a4⟩ | ⟨b1, w1, a1, E1, hw1, hx1, h41, h51, h61, hE1, hR1, hm1⟩
    · exact absurd hF1 (nn_ne a4)
    rcases one_order h2 with ⟨a1', -⟩ | ⟨-, w, a, E, hw, hx, h4, h5, h6, hE, hR, hm⟩
    · exact absurd (b1.symm.trans a1') (by decide)
    have xE := TS_x hE
    have o0 : ∀ f, f ≠ 6 → f ≠ 7 → (m_X4_readsOrder Ω 0).2 f = Ω f := fun f f6 f7 => ro_f0 f6 f7
    have hr0 : rl σ ((m_X4_readsOrder Ω 0).2 0) := by rw [o0 0 (by decide) (by decide)]; exact hr
    have ex := (hx 1).trans (j59_g (μ := Ω) (Ω := (m_X4_readsOrder Ω 0).2) w a (by rw [o0 9 (by decide) (by decide)]; exact h9))
    rw [ex]
    generalize (m_X4_readsOrder Ω 0).2 = O at *
    have hs1 := (TS_skip hE1)
    have hs2 := (TS_skip hE)
    have hh1 := TS_here hE1
    have hh2 := TS_here hE
    have k4 : s_X1_skipBlanks E 4 0 = w := by rw [skipBlanks_f (by decide)]; exact h4
    have k5 : s_X1_skipBlanks E 5 0 = a := by rw [skipBlanks_f (by decide)]; exact h5
    have k6 : w = 0 ∨ w = 1 ∨ w = 2 → s_X1_skipBlanks E 6 0 = O 7 0 := fun z => by rw [skipBlanks_f (by decide)]; exact h6 z
    -- what the class has read
    have heq : f_X1_here (s_X1_skipBlanks E1) = f_X1_here (s_X1_skipBlanks E) := hh1.symm.trans hh2
    have hend : f_X1_here (s_X1_skipBlanks E) = 59 ∨ f_X1_here (s_X1_skipBlanks E) = -1 := by
      by_cases c : f_X1_here (s_X1_skipBlanks E) = 59
      · exact Or.inl c
      · by_cases d : f_X1_here (s_X1_skipBlanks E) = -1
        · exact Or.inr d
        · rw [hR1, end_no (by rw [heq]; exact c) (by rw [heq]; exact d)] at hF1
          exact absurd hF1 (nn_ne (pos_i hs1.1).2)
    have hR2 : (m_X1_readOrder ω2).1 = -1 := by
      rcases hend with c | c
      · rw [hR, end_59 c]
      · rw [hR, end_m1 c]
    have r4 : (m_X1_readOrder ω2).2 4 0 = w ∧ (m_X1_readOrder ω2).2 5 0 = a ∧ (w = 0 ∨ w = 1 ∨ w = 2 → (m_X1_readOrder ω2).2 6 0 = O 7 0) := by
      rcases hend with c | c
      · rw [hR, end_59 c]; exact ⟨k4, k5, k6⟩
      · rw [hR, end_m1 c]; exact ⟨k4, k5, k6⟩
    have rf0 : (m_X1_readOrder ω2).2 0 = ω2 0 := rO_f (by decide)
    have rf1 : (m_X1_readOrder ω2).2 1 = ω2 1 := rO_f (by decide)
    have hC := carry hr0 (z := O 7 0) (t := (m_X1_readOrder ω2).2) hw r4.1 r4.2.1 r4.2.2
    rw [g_X3_orders, if_neg (show ¬ 100 ≤ i by omega), if_neg n2, if_pos hR2]
    generalize m_X3_carryOut σ (m_X1_readOrder ω2).2 = K at *
    generalize m_X4_carries O w a (O 7 0) = C at *
    rcases hC with ⟨c1, c2, c3, c4⟩ | ⟨c1, c2, c3, c4⟩
    · rw [if_pos c1, if_pos c3, c2, c4]
      have hi : ∀ f, f ≠ 6 → f ≠ 7 → (m_X4_here (shS (shS O 9 0) 8 (O 8 0 + 0))).2 f = shS (shS O 9 0) 8 (O 8 0 + 0) f := fun f f6 f7 => here_f f6
      have h90 : (m_X4_here (shS (shS O 9 0) 8 (O 8 0 + 0))).2 9 0 = 0 := by rw [hi 9 (by decide) (by decide)]; exact rfl
      have key : ∀ u v : Int32, ∀ f, f ≠ 6 → f ≠ 7 → (g_X4_readsText_26 m0 1 (fc + 1 + 1) u v (m_X4_here (shS (shS O 9 0) 8 (O 8 0 + 0))).2).2 f = shS (shS O 9 0) 8 (O 8 0 + 0) f := fun u v f f6 f7 => (fq_u (rt_g1 m0 f6 f7 (fc + 1 + 1) u v _ h90)).trans (hi f f6 f7)
      dsimp only
      have key2 := key 1 (m_X4_here (shS (shS O 9 0) 8 (O 8 0 + 0))).1
      generalize (g_X4_readsText_26 m0 1 (fc + 1 + 1) 1 (m_X4_here (shS (shS O 9 0) 8 (O 8 0 + 0))).1 (m_X4_here (shS (shS O 9 0) 8 (O 8 0 + 0))).2).2 = P at *
      have e0 : P 0 = Ω 0 := (key2 0 (by decide) (by decide)).trans (o0 0 (by decide) (by decide))
      unfold ordP
      dsimp only
      refine ⟨?_, ?_, ?_, ?_, fun f f0 f6 => ?_, ?_, ?_⟩
      rotate_left 1
      · omega
      · rw [e0]; with_reducible exact hr
      · intro j _; rw [e0]
      rotate_left 1
      · with_reducible exact rf0
      · with_reducible exact rf1
      · rw [key2 8 (by decide) (by decide), shS_eq, o0 8 (by decide) (by decide), h8, Int32.add_zero]
      · rw [key2 f (by omega) (by omega), shS_f (by omega), shS_f (by omega)]; exact o0 f (by omega) (by omega)
    · rw [if_neg c1, if_neg c2]
      dsimp only
      have oC : ∀ f, f ≠ 0 → C.2 f = O f := fun f f0 => c4.1 f f0
      have tE1 : TS E1 (shS (shS C.2 9 1) 8 (C.2 8 0 + 1)) := TS_f hE1 rfl rfl rfl (oC 4 (by decide)) (oC 5 (by decide)) (oC 6 (by decide))
      have tE : TS E (shS (shS C.2 9 1) 8 (C.2 8 0 + 1)) := TS_f hE rfl rfl rfl (oC 4 (by decide)) (oC 5 (by decide)) (oC 6 (by decide))
      have v1 := (TS_skip tE1).1
      have v2 := (TS_skip tE)
      have hhN := TS_here tE
      have hi : ∀ f, f ≠ 6 → (m_X4_here (shS (shS C.2 9 1) 8 (C.2 8 0 + 1))).2 f = shS (shS C.2 9 1) 8 (C.2 8 0 + 1) f := fun f f6 => here_f f6
      have d8 : shS (shS C.2 9 1) 8 (C.2 8 0 + 1) 8 0 = nI (i + 1) := by rw [shS_eq, oC 8 (by decide), o0 8 (by decide) (by decide), h8, nI_1]
      have d9 : shS (shS C.2 9 1) 8 (C.2 8 0 + 1) 9 0 = 1 := rfl
      have d0 : shS (shS C.2 9 1) 8 (C.2 8 0 + 1) 0 = C.2 0 := rfl
      have df : ∀ f, f ≠ 0 → f < 6 → shS (shS C.2 9 1) 8 (C.2 8 0 + 1) f = Ω f := fun f f0 f6 => by rw [shS_f (by omega), shS_f (by omega), oC f f0]; exact o0 f (by omega) (by omega)
      have dj : ∀ j, 413 ≤ j → C.2 0 j = Ω 0 j := fun j hj => (c4.2 j hj).trans (congrFun (o0 0 (by decide) (by decide)) j)
      generalize shS (shS C.2 9 1) 8 (C.2 8 0 + 1) = M at *
      generalize m_X4_here M = N at *
      have l8 : N.2 8 0 = nI (i + 1) := by rw [hi 8 (by decide)]; exact d8
      have l9 : N.2 9 0 = 1 := by rw [hi 9 (by decide)]; exact d9
      have l0 : N.2 0 = C.2 0 := (hi 0 (by decide)).trans d0
      have lf : ∀ f, f ≠ 0 → f < 6 → N.2 f = Ω f := fun f f0 f6 => (hi f (by omega)).trans (df f f0 f6)
      rcases hend with c | c
      · have s1 := TS_semi v1 (here_lt (heq.trans c))
        have s2 := TS_semi v2.1 (here_lt c)
        rw [hR1, end_59 (heq.trans c)] at hF2
        rw [hR, end_59 c] at rf0 rf1 ⊢
        rw [hhN, c, g_X4_readsText_26, if_neg (by decide), if_neg (by decide), if_pos rfl]
        have z1 : (shS (shS (s_X1_skipBlanks E1) 3 1) 2 (s_X1_skipBlanks E1 2 0 + 1)) 3 0 ≠ 0 := show (1 : Int32) ≠ 0 by decide
        have z2 : (shS (shS (s_X1_skipBlanks E) 3 1) 2 (s_X1_skipBlanks E 2 0 + 1)) 3 0 ≠ 0 := show (1 : Int32) ≠ 0 by decide
        have r := ih (i + 1) (fc + 1) fw (shS (shS (s_X1_skipBlanks E1) 3 1) 2 (s_X1_skipBlanks E1 2 0 + 1)) (shS (shS (s_X1_skipBlanks E) 3 1) 2 (s_X1_skipBlanks E 2 0 + 1)) (shS N.2 6 (N.2 6 0 + 1)) K.2 (by omega) (by omega) (by omega) (by rw [s2.2]; have := v2.2.2; omega) z1 z2 s1.1 s2.1 hF2 (by rw [shS_f (by decide), l0]; exact c3) (by rw [shS_f (by decide)]; exact l8) (by rw [shS_f (by decide)]; exact l9)
        obtain ⟨p1, p2, p3, p4, p5, p6, p7⟩ := r
        refine ⟨p1, p2, p3, fun j hj => ?_, fun f f0 f6 => ?_, p6.trans rf0, p7.trans rf1⟩
        · rw [p4 j hj, shS_f (by decide), l0]; exact dj j hj
        · rw [p5 f f0 f6, shS_f (by omega)]; exact lf f f0 f6
      · rw [hR, end_m1 c] at rf0 rf1 ⊢
        rw [hhN, c, g_X4_readsText_26, if_neg (by decide), if_pos rfl]
        obtain ⟨fd, rfl⟩ : ∃ fd, fu = fd + 1 := ⟨fu - 1, by omega⟩
        rw [g_X3_orders, if_pos (show (shS (s_X1_skipBlanks E) 3 0) 3 0 = 0 from shS_eq), ite_self]
        unfold ordP
        dsimp only
        have i1 : i + 1 ≤ 100 := by omega
        with_reducible exact ⟨l8, i1, by rw [l0]; exact c3, fun j hj => by rw [l0]; exact dj j hj, lf, rf0, rf1⟩
end TC

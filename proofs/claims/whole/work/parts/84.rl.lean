/-! ===== the whole text, read the same by both ===== -/
section TT
variable {τ μ : Nat → Nat → Int32}
def fq (f : Nat) (v : Nat → Int32) (z : MS) : Prop := z.2 f = v
theorem fq_p {f : Nat} {v : Nat → Int32} {a : Int32} {s : Nat → Nat → Int32} (h : s f = v) : fq f v (a, s) := h
theorem fq_z {f : Nat} {v : Nat → Int32} {z : MS} (h : z.2 f = v) : fq f v z := h
theorem fq_u {f : Nat} {v : Nat → Int32} {z : MS} (h : fq f v z) : z.2 f = v := h
theorem ro_j {f : Nat} (hf : f ≠ 6) (hf7 : f ≠ 7) (w : Int32) (Ω : Nat → Nat → Int32) : fq f (Ω f) (j_X4_readsOrder_31 μ 0 w Ω) := by
  have hr : ∀ Ω : Nat → Nat → Int32, (m_X4_reads Ω).2 f = Ω f := fun Ω => reads_f hf hf7
  have h1 := hr Ω
  have h2 : (m_X4_reads (m_X4_reads Ω).2).2 f = Ω f := (hr _).trans h1
  rw [j31, j59_0, j59_0]
  refine ite_ind (fq f (Ω f)) (fun _ => ?_) (fun _ => ite_ind (fq f (Ω f)) (fun _ => ?_) (fun _ => ite_ind (fq f (Ω f)) (fun _ => ?_) (fun _ => ?_)))
  · with_reducible exact fq_p h1
  · with_reducible exact fq_p h1
  · with_reducible exact fq_p h2
  · with_reducible exact fq_p h2
theorem ro_f0 {f : Nat} (hf : f ≠ 6) (hf7 : f ≠ 7) : (m_X4_readsOrder μ 0).2 f = μ f := by
  have ho : (m_X4_order μ).2 f = μ f := by rw [order_s]; exact here_f hf
  have hs : ∀ v : Int32, shS (m_X4_order μ).2 6 v f = μ f := fun v => (shS_f hf).trans ho
  have h3 : ∀ (w v : Int32), fq f (μ f) (j_X4_readsOrder_31 μ 0 w (shS (m_X4_order μ).2 6 v)) := fun w v => fq_z ((fq_u (ro_j hf hf7 w _)).trans (hs v))
  refine fq_u ?_
  unfold m_X4_readsOrder
  refine ite_ind (fq f (μ f)) (fun _ => ?_) (fun _ => ite_ind (fq f (μ f)) (fun _ => ?_) (fun _ => ?_))
  · with_reducible exact fq_p ho
  · with_reducible exact h3 _ _
  · with_reducible exact h3 _ _
theorem end_59 (h : f_X1_here τ = 59) : m_X1_readEndOfOrder τ = (-1, shS (shS τ 3 1) 2 (τ 2 0 + 1)) := by unfold m_X1_readEndOfOrder; rw [if_pos h]
theorem end_m1 (h : f_X1_here τ = -1) : m_X1_readEndOfOrder τ = (-1, shS τ 3 0) := by
  unfold m_X1_readEndOfOrder
  have h2 : f_X1_here (shS τ 3 0) = -1 := h
  rw [if_neg (by rw [h]; decide), if_pos h2]
theorem end_no (h : ¬ f_X1_here τ = 59) (h1 : ¬ f_X1_here τ = -1) : m_X1_readEndOfOrder τ = (τ 2 0, shS τ 3 0) := by
  unfold m_X1_readEndOfOrder
  have h2 : ¬ f_X1_here (shS τ 3 0) = -1 := h1
  rw [if_neg h, if_neg h2]
theorem here_lt (h : f_X1_here τ = 59) : xa τ < xl τ := by
  unfold f_X1_here at h
  by_cases c : xl τ ≤ xa τ
  · rw [if_pos c] at h; exact absurd h (by decide)
  · omega
theorem nn_ne {x : Int32} (h : 0 ≤ x) : ¬ x = -1 := fun e => by rw [e] at h; exact absurd h (by decide)
theorem TS_semi {e Ω : Nat → Nat → Int32} (h : TS e Ω) (hl : xa e < xl e) : TS (shS (shS e 3 1) 2 (e 2 0 + 1)) (shS Ω 6 (Ω 6 0 + 1)) ∧ xa (shS (shS e 3 1) 2 (e 2 0 + 1)) = xa e + 1 := by
  have h2 : TS (shS e 3 1) Ω := TS_f h rfl rfl rfl rfl rfl rfl
  have hl2 : xa (shS e 3 1) < xl (shS e 3 1) := hl
  exact ⟨TS_inc h2 hl2, (incX_ok h2.1 hl2).2.1⟩
theorem text_g (t0 m0 : Nat → Nat → Int32) : ∀ (fu i fa : Nat) (ω Ω : Nat → Nat → Int32), 101 - i < fu → i ≤ xa ω → 203 ≤ fa + i → ω 3 0 ≠ 0 → TS ω Ω →
    ((g_X4_readsText_26 m0 0 fa (m_X4_readsOrder Ω 0).1 (m_X4_here (m_X4_readsOrder Ω 0).2).1 (m_X4_here (m_X4_readsOrder Ω 0).2).2).1 = 0 ∧ (g_X1_faultOf_6 t0 fu i ω).1 = (g_X4_readsText_26 m0 0 fa (m_X4_readsOrder Ω 0).1 (m_X4_here (m_X4_readsOrder Ω 0).2).1 (m_X4_here (m_X4_readsOrder Ω 0).2).2).2 6 0 ∧ ¬ (g_X1_faultOf_6 t0 fu i ω).1 = -1) ∨
    ((g_X4_readsText_26 m0 0 fa (m_X4_readsOrder Ω 0).1 (m_X4_here (m_X4_readsOrder Ω 0).2).1 (m_X4_here (m_X4_readsOrder Ω 0).2).2).1 = 1 ∧ (g_X1_faultOf_6 t0 fu i ω).1 = -1) := by
  intro fu
  induction fu with
  | zero => intro i fa ω Ω q; omega
  | succ fu ih =>
    intro i fa ω Ω q hi hfa h3 h
    have x1 := TS_x h
    obtain ⟨fb, rfl⟩ : ∃ fb, fa = fb + 1 := ⟨fa - 1, by omega⟩
    obtain ⟨fc, rfl⟩ : ∃ fc, fb = fc + 1 := ⟨fb - 1, by omega⟩
    obtain ⟨fv, rfl⟩ : ∃ fv, fu = fv + 1 := ⟨fu - 1, by omega⟩
    rw [g_X1_faultOf_6, if_neg (show ¬ 100 < i by omega), if_neg h3]
    rcases one_order h with ⟨a1, a2, a3, a4⟩ | ⟨b1, w, a, E, hw, hx, h4, h5, h6, hE, hR, hm⟩
    · rw [a1, g_X4_readsText_26, if_pos rfl, if_neg (nn_ne a4)]
      dsimp only
      with_reducible exact Or.inl ⟨rfl, a3, nn_ne a4⟩
    · have hs := TS_skip hE
      have hh := TS_here hE
      have hmx := hs.2.2
      rw [b1, hR]
      generalize m_X4_here (m_X4_readsOrder Ω 0).2 = N at *
      have hN : TS (s_X1_skipBlanks E) N.2 := hs.1
      generalize s_X1_skipBlanks E = e at *
      have x2 := TS_x hN
      by_cases c : f_X1_here e = 59
      · rw [end_59 c]
        have t := TS_semi hN (here_lt c)
        rw [hh, c, g_X4_readsText_26, if_neg (by decide), if_neg (by decide), if_pos rfl, if_pos rfl]
        exact ih (i + 1) (fc + 1) _ _ (by omega) (by rw [t.2]; omega) (by omega) (show (1 : Int32) ≠ 0 by decide) t.1
      · by_cases d : f_X1_here e = -1
        · rw [end_m1 d]
          rw [hh, d, g_X4_readsText_26, if_neg (by decide), if_pos rfl, if_pos rfl, g_X1_faultOf_6]
          refine Or.inr ⟨rfl, ?_⟩
          rw [if_pos (show (shS e 3 0) 3 0 = 0 from shS_eq), ite_self]
        · rw [end_no c d]
          rw [hh, g_X4_readsText_26, if_neg (by decide), if_neg d, if_neg c, g_X4_readsText_26, if_pos rfl]
          have p := pos_i hN
          rw [if_neg (nn_ne p.2)]
          exact Or.inl ⟨rfl, p.1, nn_ne p.2⟩
/-- the text of both -/
def tR (τ μ : Nat → Nat → Int32) : Prop := okX τ ∧ (∀ k, k < 100 → τ 0 k = μ 4 k) ∧ τ 1 0 = μ 5 0 ∧ (∀ k, bnd (τ 0 k) 0 255)
theorem tR_start (h : tR τ μ) : TS (s_X1_startReading τ) (shS (shS (shS μ 6 0) 8 0) 9 1) := by
  refine ⟨okR_0 h.1, h.2.1, h.2.2.1, ?_, h.2.2.2⟩
  rfl
theorem tR_f {τ' μ' : Nat → Nat → Int32} (h : tR τ μ) (e0 : τ' 0 = τ 0) (e1 : τ' 1 = τ 1) (e4 : μ' 4 = μ 4) (e5 : μ' 5 = μ 5) : tR τ' μ' := by
  unfold tR okX xl
  rw [e0, e1, e4, e5]
  exact h
theorem q_text (h : tR τ μ) : ((m_X4_readsText μ 0).1 = 0 ∧ (m_X1_faultOf τ).1 = (m_X4_readsText μ 0).2 6 0 ∧ ¬ (m_X1_faultOf τ).1 = -1) ∨ ((m_X4_readsText μ 0).1 = 1 ∧ (m_X1_faultOf τ).1 = -1) := by
  have r := text_g τ μ 102 0 203 (s_X1_startReading τ) (shS (shS (shS μ 6 0) 8 0) 9 1) (by omega) (by omega) (by omega) (show (1 : Int32) ≠ 0 by decide) (tR_start h)
  unfold m_X4_readsText m_X1_faultOf
  dsimp only
  with_reducible exact r
theorem q_textFault (h : tR τ μ) : (m_X4_textFault μ).1 = (m_X1_faultOf τ).1 ∧ (m_X4_textFault μ).2 = (m_X4_readsText μ 0).2 := by
  unfold m_X4_textFault
  rcases q_text h with ⟨a, b, c⟩ | ⟨a, b⟩
  · rw [if_pos a]; dsimp only; with_reducible exact ⟨b.symm, rfl⟩
  · rw [if_neg (by rw [a]; decide)]; dsimp only; with_reducible exact ⟨b.symm, rfl⟩
/-- what the reading changes: only the places where it reads and what it read -/
theorem rt_g0 (m0 : Nat → Nat → Int32) {f : Nat} (hf : f ≠ 6) (hf7 : f ≠ 7) : ∀ (fa : Nat) (x2 x3 : Int32) (Ω : Nat → Nat → Int32), fq f (Ω f) (g_X4_readsText_26 m0 0 fa x2 x3 Ω) := by
  intro fa
  induction fa with
  | zero => intro x2 x3 Ω; rfl
  | succ fa ih =>
    intro x2 x3 Ω
    have h1 : fq f (Ω f) (x2, Ω) := rfl
    have e : (m_X4_here (m_X4_readsOrder (shS Ω 6 (Ω 6 0 + 1)) 0).2).2 f = Ω f := by rw [here_f hf, ro_f0 hf hf7, shS_f hf]
    have h3 : ∀ u v : Int32, fq f (Ω f) (g_X4_readsText_26 m0 0 fa u v (m_X4_here (m_X4_readsOrder (shS Ω 6 (Ω 6 0 + 1)) 0).2).2) := fun u v => fq_z ((fq_u (ih u v _)).trans e)
    rw [g_X4_readsText_26]
    refine ite_ind (fq f (Ω f)) (fun _ => ?_) (fun _ => ite_ind (fq f (Ω f)) (fun _ => ?_) (fun _ => ite_ind (fq f (Ω f)) (fun _ => ?_) (fun _ => ?_)))
    · with_reducible exact h1
    · with_reducible exact h1
    · with_reducible exact h3 _ _
    · with_reducible exact ih _ _ _
theorem rt_f0 {f : Nat} (hf : f < 6) : (m_X4_readsText μ 0).2 f = μ f := by
  have e : (m_X4_here (m_X4_readsOrder (shS (shS (shS μ 6 0) 8 0) 9 1) 0).2).2 f = μ f := by rw [here_f (by omega), ro_f0 (by omega) (by omega), shS_f (by omega), shS_f (by omega), shS_f (by omega)]
  have h3 : ∀ u v : Int32, (g_X4_readsText_26 μ 0 203 u v (m_X4_here (m_X4_readsOrder (shS (shS (shS μ 6 0) 8 0) 9 1) 0).2).2).2 f = μ f := fun u v => (fq_u (rt_g0 μ (by omega) (by omega) 203 u v _)).trans e
  unfold m_X4_readsText
  dsimp only
  with_reducible exact h3 _ _
theorem re_f {f : Nat} (hf : f < 2) : (m_X1_readEndOfOrder τ).2 f = τ f := by
  have h1 : shS (shS τ 3 1) 2 (τ 2 0 + 1) f = τ f := (shS_f (by omega)).trans (shS_f (by omega))
  have h2 : shS τ 3 0 f = τ f := shS_f (by omega)
  refine fq_u ?_
  unfold m_X1_readEndOfOrder
  refine ite_ind (fq f (τ f)) (fun _ => ?_) (fun _ => ite_ind (fq f (τ f)) (fun _ => ?_) (fun _ => ?_))
  · with_reducible exact fq_p h1
  · with_reducible exact fq_p h2
  · with_reducible exact fq_p h2
theorem rO_f {f : Nat} (hf : f < 2) : (m_X1_readOrder τ).2 f = τ f := by
  have hs : ∀ ω : Nat → Nat → Int32, s_X1_skipBlanks ω f = ω f := fun ω => skipBlanks_f (by omega)
  have hw : ∀ ω : Nat → Nat → Int32, (m_X1_readWord ω).2 f = ω f := fun ω => readWord_f (by omega)
  have hn : ∀ ω : Nat → Nat → Int32, (m_X1_readNumber ω).2 f = ω f := fun ω => readNumber_f (by omega)
  have h4 : ∀ (ω : Nat → Nat → Int32) (g : Nat) (v : Int32), 4 ≤ g → shS ω g v f = ω f := fun ω g v hg => shS_f (by omega)
  have k1 : shS (m_X1_readWord (s_X1_skipBlanks τ)).2 4 (m_X1_readWord (s_X1_skipBlanks τ)).1 f = τ f := by rw [h4 _ _ _ (by omega), hw, hs]
  refine fq_u ?_
  unfold m_X1_readOrder j_X1_readOrder_101
  generalize shS (m_X1_readWord (s_X1_skipBlanks τ)).2 4 (m_X1_readWord (s_X1_skipBlanks τ)).1 = A at *
  have k2 : shS (m_X1_readNumber (s_X1_skipBlanks A)).2 5 (m_X1_readNumber (s_X1_skipBlanks A)).1 f = τ f := by rw [h4 _ _ _ (by omega), hn, hs]; exact k1
  generalize shS (m_X1_readNumber (s_X1_skipBlanks A)).2 5 (m_X1_readNumber (s_X1_skipBlanks A)).1 = B at *
  have k3 : shS (m_X1_readNumber (s_X1_skipBlanks B)).2 6 (m_X1_readNumber (s_X1_skipBlanks B)).1 f = τ f := by rw [h4 _ _ _ (by omega), hn, hs]; exact k2
  generalize shS (m_X1_readNumber (s_X1_skipBlanks B)).2 6 (m_X1_readNumber (s_X1_skipBlanks B)).1 = C at *
  have e1 : (m_X1_readEndOfOrder (s_X1_skipBlanks B)).2 f = τ f := by rw [re_f hf, hs]; exact k2
  have e2 : (m_X1_readEndOfOrder (s_X1_skipBlanks C)).2 f = τ f := by rw [re_f hf, hs]; exact k3
  refine ite_ind (fq f (τ f)) (fun _ => ?_) (fun _ => ite_ind (fq f (τ f)) (fun _ => ?_) (fun _ => ite_ind (fq f (τ f)) (fun _ => ?_) (fun _ => ite_ind (fq f (τ f)) (fun _ => ite_ind (fq f (τ f)) (fun _ => ?_) (fun _ => ?_)) (fun _ => ?_))))
  · with_reducible exact fq_p k1
  · with_reducible exact fq_p k2
  · with_reducible exact fq_p e1
  · with_reducible exact fq_p k3
  · with_reducible exact fq_p e2
  · with_reducible exact fq_p k2
theorem fo_g (t0 : Nat → Nat → Int32) {f : Nat} (hf : f < 2) : ∀ (fu i : Nat) (ω : Nat → Nat → Int32), fq f (ω f) (g_X1_faultOf_6 t0 fu i ω) := by
  intro fu
  induction fu with
  | zero => intro i ω; rfl
  | succ fu ih =>
    intro i ω
    have h1 : ∀ v : Int32, fq f (ω f) (v, ω) := fun v => rfl
    have h2 : fq f (ω f) (g_X1_faultOf_6 t0 fu (i + 1) (m_X1_readOrder ω).2) := fq_z ((fq_u (ih _ _)).trans (rO_f hf))
    have h3 : (m_X1_readOrder ω).2 f = ω f := rO_f hf
    rw [g_X1_faultOf_6]
    refine ite_ind (fq f (ω f)) (fun _ => ?_) (fun _ => ite_ind (fq f (ω f)) (fun _ => ?_) (fun _ => ite_ind (fq f (ω f)) (fun _ => ?_) (fun _ => ?_)))
    · with_reducible exact h1 _
    · with_reducible exact h1 _
    · with_reducible exact h2
    · with_reducible exact fq_p h3
theorem fo_f {f : Nat} (hf : f < 2) : (m_X1_faultOf τ).2 f = τ f := by
  have e : s_X1_startReading τ f = τ f := (shS_f (by omega)).trans (shS_f (by omega))
  unfold m_X1_faultOf
  exact (fq_u (fo_g τ hf 102 0 _)).trans e
end TT

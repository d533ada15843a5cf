/-! ===== what changes the shop keeps its bounds ===== -/
theorem okS_grow {σ τ : Nat → Nat → Int32} (h : okS σ) {x : Int32} (hx : tn x < 6 ∧ x = nI (tn x)) (hn : nN σ < 60) (e1 : τ 1 = σ 1) (e2 : τ 2 = σ 2) (e3 : τ 3 0 = σ 3 0 + 1) (e10 : ∀ k, τ 10 k = if k = nN σ then x else σ 10 k) (e13 : ∀ k, τ 13 k = if k = nN σ then 0 else σ 13 k) (e14 : τ 14 = σ 14) : okS τ ∧ nN τ = nN σ + 1 := by
  have q : τ 3 0 = nI (nN σ + 1) := by rw [e3, okS_3 h, nI_1]
  have n3 : nN τ = nN σ + 1 := by
    show tn (τ 3 0) = nN σ + 1
    rw [q]; exact tn_nI (by omega)
  refine ⟨⟨?_, ?_, ⟨by rw [n3]; exact q, by omega⟩, fun k hk => ?_, fun k hk h1 => ?_⟩, n3⟩
  · unfold nT; rw [e1]; exact h.1
  · unfold nC; rw [e2]; exact h.2.1
  · rw [n3] at hk
    unfold tOf
    rw [e10]
    by_cases c : k = nN σ
    · rw [if_pos c]; exact ⟨hx.2, hx.1⟩
    · rw [if_neg c]; exact okS_t h (by omega)
  · rw [n3] at hk
    rw [e13] at h1
    unfold rOf
    rw [e14]
    by_cases c : k = nN σ
    · rw [if_pos c] at h1; exact absurd h1 (by decide)
    · rw [if_neg c] at h1; exact okS_r h (by omega) h1
theorem putCopy_ok {σ : Nat → Nat → Int32} (h : okS σ) {x : Int32} (hx : tn x < 6 ∧ x = nI (tn x)) (hn : nN σ < 60) (y z : Int32) : okS (s_X2_putCopy σ x y z) ∧ nN (s_X2_putCopy σ x y z) = nN σ + 1 := by
  refine okS_grow h hx hn rfl rfl (by unfold s_X2_putCopy; rw [shS_eq]) (fun k => ?_) (fun k => ?_) rfl
  · exact shU_at (σ := σ) (f := 10) (k := nN σ) (j := k) (x := x)
  · exact shU_at (σ := shU (shU (shU σ 10 (tn (σ 3 0)) x) 11 (tn (σ 3 0)) y) 12 (tn (σ 3 0)) z) (f := 13) (k := nN σ) (j := k) (x := 0)
theorem okS_lend {σ τ : Nat → Nat → Int32} (h : okS σ) {x : Int32} (hx : tn x < 8 ∧ x = nI (tn x)) (j : Nat) (e1 : τ 1 = σ 1) (e2 : τ 2 = σ 2) (e3 : τ 3 = σ 3) (e10 : τ 10 = σ 10) (e13 : ∀ k, k ≠ j → τ 13 k = σ 13 k) (e14 : ∀ k, τ 14 k = if k = j then x else σ 14 k) : okS τ := by
  have n3 : nN τ = nN σ := by unfold nN; rw [e3]
  refine ⟨by unfold nT; rw [e1]; exact h.1, by unfold nC; rw [e2]; exact h.2.1, by unfold nN; rw [e3]; exact h.2.2.1, fun k hk => ?_, fun k hk h1 => ?_⟩
  · rw [n3] at hk
    unfold tOf; rw [e10]; exact okS_t h hk
  · rw [n3] at hk
    unfold rOf; rw [e14]
    by_cases c : k = j
    · rw [if_pos c]; exact ⟨hx.2, hx.1⟩
    · rw [if_neg c]
      rw [e13 k c] at h1
      exact okS_r h hk h1
theorem nI_nT {σ : Nat → Nat → Int32} (h : okS σ) (hn : nT σ < 6) : σ 1 0 + 1 = nI (nT σ + 1) := by rw [okS_1 h, nI_1]
theorem putTitle_ok {σ : Nat → Nat → Int32} (h : okS σ) (x y : Int32) : okS (m_X2_putTitle σ x y).2 := by
  unfold m_X2_putTitle
  refine ite_ind (fun z : MS => okS z.2) (fun _ => h) (fun _ => ite_ind (fun z : MS => okS z.2) (fun _ => h) (fun _ => ite_ind (fun z : MS => okS z.2) (fun c => ?_) (fun _ => h)))
  have e : nT (shS (shU (shU σ 5 (nT σ) x) 6 (nT σ) y) 1 ((σ 1 0) + 1)) = nT σ + 1 := by
    show tn (σ 1 0 + 1) = nT σ + 1
    rw [nI_nT h c]; exact tn_nI (by omega)
  refine ⟨⟨?_, ?_⟩, h.2.1, h.2.2.1, h.2.2.2.1, h.2.2.2.2⟩
  · show σ 1 0 + 1 = nI (nT (shS (shU (shU σ 5 (nT σ) x) 6 (nT σ) y) 1 ((σ 1 0) + 1)))
    rw [e]; exact nI_nT h c
  · show nT (shS (shU (shU σ 5 (nT σ) x) 6 (nT σ) y) 1 ((σ 1 0) + 1)) ≤ 6
    rw [e]; omega
theorem changePrice_ok {σ : Nat → Nat → Int32} (h : okS σ) (x y : Int32) : okS (m_X2_changePrice σ x y).2 := by
  unfold m_X2_changePrice
  (repeat' split) <;> first | exact h | exact okS_of h rfl rfl rfl rfl rfl (fun _ q => q)
theorem advanceEdition_ok {σ : Nat → Nat → Int32} (h : okS σ) (x : Int32) : okS (m_X2_advanceEdition σ x).2 := by
  unfold m_X2_advanceEdition
  (repeat' split) <;> first | exact h | exact okS_of h rfl rfl rfl rfl rfl (fun _ q => q)
theorem putCourse_ok {σ : Nat → Nat → Int32} (h : okS σ) (x y z : Int32) : okS (m_X2_putCourse σ x y z).2 := by
  unfold m_X2_putCourse
  refine ite_ind (fun z : MS => okS z.2) (fun _ => h) (fun _ => ite_ind (fun z : MS => okS z.2) (fun _ => h) (fun _ => ite_ind (fun z : MS => okS z.2) (fun _ => h) (fun _ => ite_ind (fun z : MS => okS z.2) (fun c => ?_) (fun _ => h))))
  have e0 : σ 2 0 + 1 = nI (nC σ + 1) := by rw [okS_2 h, nI_1]
  have e : nC (shS (shU (shU (shU σ 7 (nC σ) x) 8 (nC σ) y) 9 (nC σ) z) 2 ((σ 2 0) + 1)) = nC σ + 1 := by
    show tn (σ 2 0 + 1) = nC σ + 1
    rw [e0]; exact tn_nI (by omega)
  refine ⟨h.1, ⟨?_, ?_⟩, h.2.2.1, h.2.2.2.1, h.2.2.2.2⟩
  · show σ 2 0 + 1 = nI (nC (shS (shU (shU (shU σ 7 (nC σ) x) 8 (nC σ) y) 9 (nC σ) z) 2 ((σ 2 0) + 1)))
    rw [e]; exact e0
  · show nC (shS (shU (shU (shU σ 7 (nC σ) x) 8 (nC σ) y) 9 (nC σ) z) 2 ((σ 2 0) + 1)) ≤ 6
    rw [e]; omega
theorem changeCourse_ok {σ : Nat → Nat → Int32} (h : okS σ) (x y z : Int32) : okS (m_X2_changeCourse σ x y z).2 := by
  unfold m_X2_changeCourse
  (repeat' split) <;> first | exact h | exact okS_of h rfl rfl rfl rfl rfl (fun _ q => q)
theorem changeSetting_ok {σ : Nat → Nat → Int32} (h : okS σ) (x y : Int32) : okS (m_X2_changeSetting σ x y).2 := by
  unfold m_X2_changeSetting
  (repeat' split) <;> first | exact h | exact okS_of h rfl rfl rfl rfl rfl (fun _ q => q)
theorem buyNew_g {σ : Nat → Nat → Int32} {x y : Int32} (hx : tn x < 6 ∧ x = nI (tn x)) : ∀ (fu k : Nat) (ω : Nat → Nat → Int32), okS ω → nN ω + (tn y - k) ≤ 60 → okS (g_X2_buyNew_46 σ x y fu k ω) := by
  intro fu
  induction fu with
  | zero => intro k ω h _; exact h
  | succ fu ih =>
    intro k ω h hn
    rw [g_X2_buyNew_46]
    split
    · exact h
    · have r := putCopy_ok h hx (by omega) (ω 6 (tn x)) 0
      exact ih _ _ r.1 (by rw [r.2]; omega)
theorem buyNew_ok {σ : Nat → Nat → Int32} (h : okS σ) (x y : Int32) : okS (m_X2_buyNew σ x y).2 := by
  unfold m_X2_buyNew
  refine ite_ind (fun z : MS => okS z.2) (fun _ => h) (fun c1 => ite_ind (fun z : MS => okS z.2) (fun _ => h) (fun c2 => ite_ind (fun z : MS => okS z.2) (fun c3 => ?_) (fun _ => h)))
  have hb := okS_b h
  have ht := hasTitle_ok h c1
  have hy := btwN 20 c2 (by decide) rfl (by decide)
  have hc := cap_ok (okS_3 h) hy.2 c3 (by omega) (by omega)
  have r := buyNew_g (σ := σ) (x := x) (y := y) ⟨by omega, ht.2⟩ (tn y + 1) 0 σ h (by omega)
  exact okS_of r rfl rfl rfl rfl rfl (fun _ q => q)
theorem buyUsed_ok {σ : Nat → Nat → Int32} (h : okS σ) (x y z : Int32) (ht : 0 ≤ f_X2_offerFor σ x y z → tn x < nT σ ∧ x = nI (tn x)) : okS (m_X2_buyUsed σ x y z).2 := by
  unfold m_X2_buyUsed
  refine ite_ind (fun z : MS => okS z.2) (fun c0 => ite_ind (fun z : MS => okS z.2) (fun _ => h) (fun c1 => ite_ind (fun z : MS => okS z.2) (fun c2 => ?_) (fun _ => h))) (fun _ => h)
  have hb := okS_b h
  have hx := ht c0
  have r := (putCopy_ok h (x := x) ⟨by omega, hx.2⟩ c2 y z).1
  exact okS_of r rfl rfl rfl rfl rfl (fun _ q => q)
theorem sellCopy_ok {σ : Nat → Nat → Int32} (h : okS σ) (x : Int32) : okS (m_X2_sellCopy σ x).2 := by
  unfold m_X2_sellCopy
  (repeat' split) <;> first | exact h | exact okS_of h rfl rfl rfl rfl rfl (fun _ q => shU_13 (σ := σ) (by decide) q)
theorem lend_at {σ : Nat → Nat → Int32} (h : okS σ) {x : Int32} (hx : tn x < 8 ∧ x = nI (tn x)) (j i : Nat) (v1 v2 v3 : Int32) : okS (shU (shU (shU (shU (shU σ 13 j 1) 14 j x) 15 j v1) 16 0 v2) 17 i v3) :=
  okS_lend h hx j rfl rfl rfl rfl (fun k hk => shU_ne (σ := σ) (f := 13) hk) (fun k => shU_at (σ := σ) (f := 14) (k := j) (j := k) (x := x))
theorem rentCopy_ok {σ : Nat → Nat → Int32} (h : okS σ) (x y : Int32) : okS (m_X2_rentCopy σ x y).2 := by
  unfold m_X2_rentCopy
  refine ite_ind (fun z : MS => okS z.2) (fun _ => h) (fun c1 => ite_ind (fun z : MS => okS z.2) (fun _ => h) (fun c2 => ite_ind (fun z : MS => okS z.2) (fun _ => h) (fun c3 => ite_ind (fun z : MS => okS z.2) (fun _ => h) (fun c4 => ?_))))
  dsimp only
  with_reducible exact lend_at h (hasCustomer_ok c1) _ _ _ _ _
theorem back_1 {σ : Nat → Nat → Int32} (h : okS σ) (j i : Nat) (v1 v2 v3 v4 : Int32) : okS (shU (shU (shU (shU (shU σ 13 j 0) 12 j v1) 16 2 v2) 16 1 v3) 17 i v4) := okS_of h rfl rfl rfl rfl rfl (fun _ q => shU_13 (σ := σ) (by decide) q)
theorem back_2 {σ : Nat → Nat → Int32} (h : okS σ) (j i : Nat) (v2 v3 v4 : Int32) : okS (shU (shU (shU (shU σ 13 j 3) 16 3 v2) 16 1 v3) 17 i v4) := okS_of h rfl rfl rfl rfl rfl (fun _ q => shU_13 (σ := σ) (by decide) q)
theorem takeBack_ok {σ : Nat → Nat → Int32} (h : okS σ) (x y : Int32) : okS (m_X2_takeBack σ x y).2 := by
  unfold m_X2_takeBack
  refine ite_ind (fun z : MS => okS z.2) (fun _ => h) (fun c1 => ite_ind (fun z : MS => okS z.2) (fun _ => h) (fun c2 => ite_ind (fun z : MS => okS z.2) (fun c3 => ite_ind (fun z : MS => okS z.2) (fun _ => ?_) (fun _ => ?_)) (fun _ => h)))
  · dsimp only
    with_reducible exact back_1 h _ _ _ _ _ _
  · dsimp only
    with_reducible exact back_2 h _ _ _ _ _
theorem passDays_g {σ : Nat → Nat → Int32} {x : Int32} : ∀ (fu k : Nat) (z : Int32) (ω : Nat → Nat → Int32), okS ω → okS (g_X2_passDays_42 σ x fu k z ω).2 := by
  intro fu
  induction fu with
  | zero => intro k z ω h; exact h
  | succ fu ih =>
    intro k z ω h
    rw [g_X2_passDays_42]
    refine ite_ind (fun z : MS => okS z.2) (fun _ => h) (fun _ => ite_ind (fun z : MS => okS z.2) (fun _ => ih _ _ _ h) (fun _ => ih _ _ _ (okS_of h rfl rfl rfl rfl rfl (fun _ q => shU_13 (σ := ω) (by decide) q))))
theorem passDays_ok {σ : Nat → Nat → Int32} (h : okS σ) (x : Int32) : okS (m_X2_passDays σ x).2 := by
  unfold m_X2_passDays
  refine ite_ind (fun z : MS => okS z.2) (fun _ => h) (fun _ => ite_ind (fun z : MS => okS z.2) (fun _ => ?_) (fun _ => h))
  exact passDays_g _ _ _ _ (okS_of h rfl rfl rfl rfl rfl (fun _ q => q))
theorem findAgain_g {σ : Nat → Nat → Int32} {x y : Int32} (f : Nat) (hf : f ≠ 13) : ∀ (fu k : Nat) (z : Int32) (ω : Nat → Nat → Int32), g_X2_findAgain_5 σ x y fu k z ω f = ω f := by
  intro fu
  induction fu with
  | zero => intro k z ω; rfl
  | succ fu ih =>
    intro k z ω
    rw [g_X2_findAgain_5]
    (repeat' split) <;> first | rfl | exact ih .. | (rw [ih]; exact if_neg hf)
theorem findAgain_13 {σ : Nat → Nat → Int32} {x y : Int32} : ∀ (fu k : Nat) (z : Int32) (ω : Nat → Nat → Int32) (j : Nat), g_X2_findAgain_5 σ x y fu k z ω 13 j = 1 → ω 13 j = 1 := by
  intro fu
  induction fu with
  | zero => intro k z ω j h; exact h
  | succ fu ih =>
    intro k z ω j h
    rw [g_X2_findAgain_5] at h
    (repeat' split at h) <;> first | exact h | exact ih _ _ _ _ h | exact shU_13 (by decide) (ih _ _ _ _ h)
theorem findAgain_ok {σ : Nat → Nat → Int32} (hok : okS σ) (x y : Int32) : okS (s_X2_findAgain σ x y) :=
  okS_of hok (findAgain_g 1 (by decide) _ _ _ _) (findAgain_g 2 (by decide) _ _ _ _) (findAgain_g 3 (by decide) _ _ _ _) (findAgain_g 10 (by decide) _ _ _ _) (findAgain_g 14 (by decide) _ _ _ _) (fun j h => findAgain_13 _ _ _ _ j h)
theorem countShelf_ok {σ : Nat → Nat → Int32} (h : okS σ) (x y : Int32) : okS (m_X2_countShelf σ x y).2 := by
  unfold m_X2_countShelf
  refine ite_ind (fun z : MS => okS z.2) (fun _ => h) (fun _ => ite_ind (fun z : MS => okS z.2) (fun _ => h) (fun _ => ite_ind (fun z : MS => okS z.2) (fun _ => findAgain_ok (loseSight_ok h _ _) _ _) (fun _ => h)))
theorem carryOut_ok {σ τ : Nat → Nat → Int32} (h : okS σ) : okS (m_X3_carryOut σ τ).2 := by
  unfold m_X3_carryOut
  refine ite_ind (fun z : MS => okS z.2) (fun _ => rentCopy_ok h _ _) (fun _ => ite_ind (fun z : MS => okS z.2) (fun _ => takeBack_ok h _ _) (fun _ => ite_ind (fun z : MS => okS z.2) (fun _ => buyNew_ok h _ _) (fun _ => ite_ind (fun z : MS => okS z.2) (fun _ => sellCopy_ok h _) (fun _ => passDays_ok h _))))
/-! ===== the text keeps its flag ===== -/
theorem skipBlanks_f {τ : Nat → Nat → Int32} {f : Nat} (hf : f ≠ 2) : s_X1_skipBlanks τ f = τ f := by
  have g : ∀ (fu : Nat) (ω : Nat → Nat → Int32), g_X1_skipBlanks_0 τ fu ω f = ω f := by
    intro fu
    induction fu with
    | zero => intro ω; rfl
    | succ fu ih =>
      intro ω
      rw [g_X1_skipBlanks_0]
      (repeat' split) <;> first | rfl | (rw [ih]; exact shS_f hf)
  exact g 101 τ
theorem readNumber_f {τ : Nat → Nat → Int32} {f : Nat} (hf : f ≠ 2) : (m_X1_readNumber τ).2 f = τ f := by
  have g : ∀ (fu q : Nat) (v : Int32) (ω : Nat → Nat → Int32), (g_X1_readNumber_4 τ fu q v ω).2 f = ω f := by
    intro fu
    induction fu with
    | zero => intro q v ω; rfl
    | succ fu ih =>
      intro q v ω
      rw [g_X1_readNumber_4]
      (repeat' split) <;> first | rfl | (rw [ih]; exact shS_f hf)
  exact g 101 0 0 τ
theorem readWord_f {τ : Nat → Nat → Int32} {f : Nat} (hf : f ≠ 2) : (m_X1_readWord τ).2 f = τ f := by
  have g : ∀ (fu : Nat) (ω : Nat → Nat → Int32), g_X1_readWord_5 τ fu ω f = ω f := by
    intro fu
    induction fu with
    | zero => intro ω; rfl
    | succ fu ih =>
      intro ω
      rw [g_X1_readWord_5]
      (repeat' split) <;> first | rfl | (rw [ih]; exact shS_f hf)
  have key : ∀ v : Int32, (v, g_X1_readWord_5 τ 101 τ).2 f = τ f := fun v => g 101 τ
  unfold m_X1_readWord
  (repeat' split) <;> exact key _
def z3 (τ : Nat → Nat → Int32) : Prop := τ 3 0 = 0 ∨ τ 3 0 = 1
theorem z3_eq {τ τ' : Nat → Nat → Int32} (h : z3 τ) (e : τ' 3 = τ 3) : z3 τ' := by unfold z3; rw [e]; exact h
theorem readEnd_3 {τ : Nat → Nat → Int32} : z3 (m_X1_readEndOfOrder τ).2 := by
  unfold m_X1_readEndOfOrder
  (repeat' split) <;> first | exact Or.inr rfl | exact Or.inl rfl
theorem readOrderJ_3 {τ ω : Nat → Nat → Int32} : z3 (j_X1_readOrder_101 τ ω).2 := by
  unfold j_X1_readOrder_101
  exact readEnd_3
theorem z3_w {ω : Nat → Nat → Int32} (h : z3 ω) (v : Int32) : z3 (shS (m_X1_readWord ω).2 4 v) := z3_eq h ((shS_f (by decide)).trans (readWord_f (by decide)))
theorem z3_s {ω : Nat → Nat → Int32} (h : z3 ω) : z3 (s_X1_skipBlanks ω) := z3_eq h (skipBlanks_f (by decide))
theorem z3_n5 {ω : Nat → Nat → Int32} (h : z3 ω) (v : Int32) : z3 (shS (m_X1_readNumber ω).2 5 v) := z3_eq h ((shS_f (by decide)).trans (readNumber_f (by decide)))
theorem z3_n6 {ω : Nat → Nat → Int32} (h : z3 ω) (v : Int32) : z3 (shS (m_X1_readNumber ω).2 6 v) := z3_eq h ((shS_f (by decide)).trans (readNumber_f (by decide)))
theorem readOrder_3 {τ : Nat → Nat → Int32} (h : z3 τ) : z3 (m_X1_readOrder τ).2 := by
  have h2 := z3_w (z3_s h) (m_X1_readWord (s_X1_skipBlanks τ)).1
  have h5 := z3_n5 (z3_s h2) (m_X1_readNumber (s_X1_skipBlanks (shS (m_X1_readWord (s_X1_skipBlanks τ)).2 4 (m_X1_readWord (s_X1_skipBlanks τ)).1))).1
  unfold m_X1_readOrder
  refine ite_ind (fun z : MS => z3 z.2) (fun _ => h2) (fun _ => ite_ind (fun z : MS => z3 z.2) (fun _ => h5) (fun _ => ite_ind (fun z : MS => z3 z.2) (fun _ => readOrderJ_3) (fun _ => ite_ind (fun z : MS => z3 z.2) (fun _ => ite_ind (fun z : MS => z3 z.2) (fun _ => z3_n6 (z3_s h5) _) (fun _ => readOrderJ_3)) (fun _ => h5))))

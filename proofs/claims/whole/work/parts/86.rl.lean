/-! ===== the history and the text beside the model ===== -/
def HR (ρ : Nat → Nat → Nat → Int32) (sp kp : Nat) (μ : Nat → Nat → Int32) : Prop := sp < 6 ∧ kp ≤ 5 ∧ μ 1 0 = nI kp ∧ rl (ρ 0) (μ 0) ∧ (∀ j, j < kp → rl (ρ ((sp + 5 - j) % 6 + 1)) (fun p => μ 0 (413 * (kp - j) + p))) ∧ (∀ x, bdR (ρ x)) ∧ μ 2 = mo0 2 ∧ μ 3 = mo0 3
def IV (ρ : Nat → Nat → Nat → Int32) (sp kp : Nat) (τ μ : Nat → Nat → Int32) : Prop := HR ρ sp kp μ ∧ tR τ μ ∧ okT 105 μ
section HI
variable {ρ : Nat → Nat → Nat → Int32} {sp kp : Nat} {σ τ μ : Nat → Nat → Int32}
theorem shLen_ln {f i : Nat} (h : i < lnS f) (hf : ¬ f < 4) : i < shLen f := by
  unfold lnS at h; unfold shLen
  split at h <;> first | exact h | omega
theorem cp_at {f i : Nat} (h : i < lnS f) : cpS τ σ f i = τ f i := by
  unfold cpS
  by_cases c : f < 4
  · rw [if_pos c]
    have : i = 0 := by
      match f, c with
      | 0, _ => exact Nat.lt_one_iff.mp h
      | 1, _ => exact Nat.lt_one_iff.mp h
      | 2, _ => exact Nat.lt_one_iff.mp h
      | 3, _ => exact Nat.lt_one_iff.mp h
    rw [this]
  · rw [if_neg c]
    unfold cpF
    rw [if_pos (shLen_ln h c)]
theorem cp_14 {i : Nat} (h : i < 60) : cpS τ σ 14 i = τ 14 i := by
  unfold cpS cpF
  rw [if_neg (by decide), if_pos (show i < shLen 14 from h)]
theorem cp_15 {i : Nat} (h : i < 60) : cpS τ σ 15 i = τ 15 i := by
  unfold cpS cpF
  rw [if_neg (by decide), if_pos (show i < shLen 15 from h)]
theorem cp_bd (h : bdR τ) (hb : bdR σ) : bdR (cpS τ σ) := by
  intro f i
  unfold cpS
  by_cases c : f < 4
  · rw [if_pos c]
    match f, c with
    | 0, _ => exact h 0 0
    | 1, _ => trivial
    | 2, _ => trivial
    | 3, _ => trivial
  · rw [if_neg c]
    unfold cpF
    by_cases d : i < shLen f
    · show bok f i (if i < shLen f then τ f i else σ f i)
      rw [if_pos d]; exact h f i
    · show bok f i (if i < shLen f then τ f i else σ f i)
      rw [if_neg d]; exact hb f i
theorem rl_cp {r : Nat → Int32} (h : rl τ r) (hb : bdR σ) : rl (cpS τ σ) r := by
  have e1 : cpS τ σ 1 0 = τ 1 0 := cp_at (by decide)
  have e2 : cpS τ σ 2 0 = τ 2 0 := cp_at (by decide)
  have e3 : cpS τ σ 3 0 = τ 3 0 := cp_at (by decide)
  have n3 : nN (cpS τ σ) = nN τ := congrArg tn e3
  have hN := (okS_b h.1).2.2
  refine ⟨⟨?_, ?_, ?_, fun k hk => ?_, fun k hk h1 => ?_⟩, fun f i hi => by rw [cp_at hi]; exact h.2.1 f i hi, fun k hk => ?_, cp_bd h.2.2.2 hb⟩
  · unfold nT; rw [e1]; exact h.1.1
  · unfold nC; rw [e2]; exact h.1.2.1
  · rw [n3, e3]; exact h.1.2.2.1
  · rw [n3] at hk
    unfold tOf
    rw [cp_at (f := 10) (i := k) (show k < 60 by omega)]
    exact okS_t h.1 hk
  · rw [n3] at hk
    rw [cp_at (f := 13) (i := k) (show k < 60 by omega)] at h1
    unfold rOf
    rw [cp_14 (show k < 60 by omega)]
    exact okS_r h.1 hk h1
  · rw [n3] at hk
    rw [cp_at (f := 13) (i := k) (show k < 60 by omega), cp_14 (show k < 60 by omega), cp_15 (show k < 60 by omega)]
    exact h.2.2.1 k hk
theorem copies_row {fa tb i p : Nat} (hne : fa ≠ tb) (hp : p < 413) : s_X4_copies μ fa tb 0 (413 * i + p) = if i = tb then μ 0 (413 * fa + p) else μ 0 (413 * i + p) := by
  rw [copies_at hne]
  by_cases c : i = tb
  · subst c
    rw [if_pos (by omega), if_pos rfl]
    congr 1
    omega
  · rw [if_neg (by omega), if_neg c]
theorem saves_rows (m0 : Nat → Nat → Int32) : ∀ (fu k : Nat) (ω : Nat → Nat → Int32), 5 - k < fu → ω 1 0 = 5 → ∀ i p, p < 413 → g_X4_saves_2 m0 fu k ω 0 (413 * i + p) = if k ≤ i ∧ i ≤ 4 then ω 0 (413 * (i + 1) + p) else ω 0 (413 * i + p) := by
  intro fu
  induction fu with
  | zero => intro k ω q; omega
  | succ fu ih =>
    intro k ω q h1 i p hp
    rw [g_X4_saves_2]
    by_cases c : 5 ≤ k
    · rw [if_pos c, if_neg (by omega)]
    · rw [if_neg c, if_pos h1, ih (k + 1) _ (by omega) (by rw [copies_o (by decide)]; exact h1) i p hp]
      by_cases d : k + 1 ≤ i ∧ i ≤ 4
      · rw [if_pos d, if_pos (by omega), copies_row (by omega) hp, if_neg (by omega)]
      · rw [if_neg d, copies_row (by omega) hp]
        by_cases e : i = k
        · rw [if_pos e, if_pos (by omega), e]
        · rw [if_neg e, if_neg (by omega)]
theorem saves_row (hs : μ 1 0 = nI kp) (hk : kp ≤ 5) {i p : Nat} (hp : p < 413) (hi : 1 ≤ i) (hi5 : i ≤ (if 5 < kp + 1 then 5 else kp + 1)) :
    s_X4_saves μ 0 (413 * i + p) = if i = (if 5 < kp + 1 then 5 else kp + 1) then μ 0 p else if 5 < kp + 1 then μ 0 (413 * (i + 1) + p) else μ 0 (413 * i + p) := by
  have e5 : (5 : Int32) = nI 5 := rfl
  have mS_ : mS μ = kp := by unfold mS; rw [hs]; exact tn_nI (by omega)
  have g1 : (g_X4_saves_2 μ 5 1 μ) 1 0 = nI kp := by rw [saves_g (by decide)]; exact hs
  unfold s_X4_saves
  rw [g1, mS_]
  by_cases c : 5 < kp + 1
  · have k5 : kp = 5 := by omega
    subst k5
    rw [if_pos (show nI 5 = 5 from rfl), if_pos c, copies_row (by decide) hp]
    rw [if_pos c] at hi5
    by_cases d : i = 5
    · rw [if_pos d, if_pos d]
      have : shS (shS (g_X4_saves_2 μ 5 1 μ) 1 (nI 5 - 1)) 1 (nI 5 - 1 + 1) 0 = g_X4_saves_2 μ 5 1 μ 0 := (shS_f (by decide)).trans (shS_f (by decide))
      rw [this, Nat.mul_zero, Nat.zero_add]
      exact saves_g0 5 1 μ (by omega) p hp
    · rw [if_neg d, if_neg d, if_pos c]
      have : shS (shS (g_X4_saves_2 μ 5 1 μ) 1 (nI 5 - 1)) 1 (nI 5 - 1 + 1) 0 = g_X4_saves_2 μ 5 1 μ 0 := (shS_f (by decide)).trans (shS_f (by decide))
      rw [this, saves_rows μ 5 1 μ (by omega) hs i p hp, if_pos (by omega)]
  · have n5 : ¬ nI kp = 5 := fun z => by
      have := (nI_eq (a := kp) (b := 5) (by omega) (by omega)).mp z
      omega
    have gm : g_X4_saves_2 μ 5 1 μ = μ := by rw [g_X4_saves_2, if_neg (by decide), if_neg (by rw [hs]; exact n5)]
    rw [if_neg n5, gm, if_neg c, copies_row (by omega) hp]
    rw [if_neg c] at hi5
    have : shS (shS μ 1 (nI kp - 0)) 1 (nI kp - 0 + 1) 0 = μ 0 := (shS_f (by decide)).trans (shS_f (by decide))
    rw [this, if_neg c, Nat.mul_zero, Nat.zero_add]
theorem HR_ok (h : HR ρ sp kp μ) : okM μ := ok_saves h.2.2.2.1 (by
  have e : mS μ = kp := by unfold mS; rw [h.2.2.1]; exact tn_nI (by have := h.2.1; omega)
  rw [e]; exact ⟨h.2.2.1, h.2.1⟩)
theorem rc_bd (h : ∀ x, bdR (ρ x)) {w : Nat → Nat → Int32} (hw : bdR w) : ∀ x, bdR (rcρ ρ sp w x) := by
  intro x
  unfold rcρ va_up
  by_cases c : x = 0
  · rw [if_pos c]; exact hw
  · rw [if_neg c]
    by_cases d : x = sp + 1
    · rw [if_pos d]; exact cp_bd (h 0) (h _)
    · rw [if_neg d]; exact h x
theorem rc_at {w : Nat → Nat → Int32} {x : Nat} (h0 : x ≠ 0) (h1 : x ≠ sp + 1) : rcρ ρ sp w x = ρ x := by
  unfold rcρ va_up
  rw [if_neg h0, if_neg h1]
theorem rc_sp {w : Nat → Nat → Int32} : rcρ ρ sp w (sp + 1) = cpS (ρ 0) (ρ (sp + 1)) := by
  unfold rcρ va_up
  rw [if_neg (by omega), if_pos rfl]
/-- a recorded call that is done -/
theorem HR_yes (h : HR ρ sp kp μ) {w μ' : Nat → Nat → Int32} (hw : rl w (μ' 0)) (hr : ∀ j, 413 ≤ j → μ' 0 j = s_X4_saves μ 0 j) (h1 : μ' 1 = s_X4_saves μ 1) (h2 : μ' 2 = μ 2) (h3 : μ' 3 = μ 3) : HR (rcρ ρ sp w) ((sp + 1) % 6) (if 5 < kp + 1 then 5 else kp + 1) μ' := by
  obtain ⟨a1, a2, a3, a4, a5, a6, a7, a8⟩ := h
  have hok := HR_ok ⟨a1, a2, a3, a4, a5, a6, a7, a8⟩
  have e : mS μ = kp := by unfold mS; rw [a3]; exact tn_nI (by omega)
  refine ⟨Nat.mod_lt _ (by decide), by split <;> omega, ?_, hw, fun j hj => ?_, rc_bd a6 hw.2.2.2, h2.trans a7, h3.trans a8⟩
  · rw [h1, saves_1 hok, e]
    by_cases c : kp = 5
    · rw [if_pos c, if_pos (by omega)]
    · rw [if_neg c, if_neg (by omega)]
  · have hrow : ∀ p, p < 413 → μ' 0 (413 * ((if 5 < kp + 1 then 5 else kp + 1) - j) + p) = s_X4_saves μ 0 (413 * ((if 5 < kp + 1 then 5 else kp + 1) - j) + p) := fun p hp => hr _ (by omega)
    have hsv := fun p (hp : p < 413) => saves_row (i := (if 5 < kp + 1 then 5 else kp + 1) - j) a3 a2 hp (by omega) (by omega)
    by_cases c : j = 0
    · subst c
      have ei : ((sp + 1) % 6 + 5 - 0) % 6 + 1 = sp + 1 := by omega
      rw [ei, rc_sp]
      refine rl_cp (rl_lo a4 (fun p hp => ?_)) (a6 _)
      show μ' 0 (413 * ((if 5 < kp + 1 then 5 else kp + 1) - 0) + p) = μ 0 p
      rw [hrow p hp, hsv p hp, if_pos (by omega)]
    · have hj' : j < kp + 1 ∧ j < 5 + 0 ∨ j < kp + 1 := by split at hj <;> omega
      have j4 : j ≤ 4 ∨ kp + 1 ≤ 5 := by split at hj <;> omega
      have ei : ((sp + 1) % 6 + 5 - j) % 6 + 1 = (sp + 5 - (j - 1)) % 6 + 1 := by omega
      rw [ei, rc_at (by omega) (by omega)]
      refine rl_lo (a5 (j - 1) (by omega)) (fun p hp => ?_)
      show μ' 0 (413 * ((if 5 < kp + 1 then 5 else kp + 1) - j) + p) = μ 0 (413 * (kp - (j - 1)) + p)
      rw [hrow p hp, hsv p hp]
      by_cases d : 5 < kp + 1
      · rw [if_pos d] at hj ⊢
        rw [if_neg (by omega), if_pos d]
        congr 2
        omega
      · rw [if_neg d] at hj ⊢
        rw [if_neg (by omega), if_neg d]
        congr 2
        omega
theorem HR_no (h : HR ρ sp kp μ) : HR (rcρ ρ sp (ρ 0)) sp kp μ := by
  obtain ⟨a1, a2, a3, a4, a5, a6, a7, a8⟩ := h
  refine ⟨a1, a2, a3, a4, fun j hj => ?_, rc_bd a6 a4.2.2.2, a7, a8⟩
  rw [rc_at (by omega) (by omega)]
  exact a5 j hj
theorem HR_undo (h : HR ρ sp kp μ) : (m_X4_undo μ).1 = rs_v kp ∧ HR (rs_ρ ρ sp kp) (rs_sp sp kp) (kp - 1) (m_X4_undo μ).2 ∧ ∀ f, 2 ≤ f → (m_X4_undo μ).2 f = μ f := by
  obtain ⟨a1, a2, a3, a4, a5, a6, a7, a8⟩ := h
  have e : mS μ = kp := by unfold mS; rw [a3]; exact tn_nI (by omega)
  unfold m_X4_undo rs_v rs_ρ rs_sp
  rw [e]
  by_cases c : kp = 0
  · rw [if_pos c, if_pos c, if_pos c, if_pos c]
    subst c
    exact ⟨rfl, ⟨a1, a2, a3, a4, a5, a6, a7, a8⟩, fun f _ => rfl⟩
  · rw [if_neg c, if_neg c, if_neg c, if_neg c]
    have e1 : s_X4_copies μ kp 0 1 0 = nI kp := by rw [copies_o (by decide)]; exact a3
    obtain ⟨q, rfl⟩ : ∃ q, kp = q + 1 := ⟨kp - 1, by omega⟩
    rw [e1, nI_pred]
    have f0 : shS (s_X4_copies μ (q + 1) 0) 1 (nI q) 0 = s_X4_copies μ (q + 1) 0 0 := shS_f (by decide)
    have ei : (sp + 6 - 1) % 6 = (sp + 5 - 0) % 6 := by omega
    dsimp only
    refine ⟨rfl, ⟨Nat.mod_lt _ (by decide), by omega, (show shS (s_X4_copies μ (q + 1) 0) 1 (nI q) 1 0 = nI (q + 1 - 1) from shS_eq), ?_, fun j hj => ?_, fun x => ?_, ?_, ?_⟩, fun f hf => ?_⟩
    · rw [f0]
      show rl (va_up ρ 0 _ 0) _
      rw [va_up_self, ei]
      refine rl_cp (rl_lo (a5 0 (by omega)) (fun p hp => ?_)) (a6 0)
      have r := copies_row (μ := μ) (fa := q + 1) (tb := 0) (i := 0) (by omega) hp
      rw [if_pos rfl, Nat.mul_zero, Nat.zero_add] at r
      exact r
    · have hj : j < q := hj
      rw [va_up_ne _ _ (by omega), f0]
      have ej : ((sp + 6 - 1) % 6 + 5 - j) % 6 + 1 = (sp + 5 - (j + 1)) % 6 + 1 := by omega
      rw [ej]
      refine rl_lo (a5 (j + 1) (by omega)) (fun p hp => ?_)
      rw [copies_row (by omega) hp, if_neg (by omega)]
      have en : 413 * (q + 1 - 1 - j) + p = 413 * (q + 1 - (j + 1)) + p := by omega
      rw [en]
    · by_cases d : x = 0
      · subst d; rw [va_up_self]; exact cp_bd (a6 _) (a6 0)
      · rw [va_up_ne _ _ d]; exact a6 x
    · rw [shS_f (by decide), copies_o (by decide)]; exact a7
    · rw [shS_f (by decide), copies_o (by decide)]; exact a8
    · rw [shS_f (by omega), copies_o (by omega)]
/-- what the law keeps -/
theorem IV_rec (h : IV ρ sp kp τ μ) {w m : MS} (hr : recd (ρ 0) μ w m) : m.1 = w.1 ∧ IV (rcρ ρ sp w.2) (st_sp w.1 sp) (st_kp w.1 kp) τ m.2 := by
  obtain ⟨h1, h2, h3⟩ := h
  have hok := HR_ok h1
  unfold st_sp st_kp
  rcases hr with ⟨c1, c2, c3⟩ | ⟨c1, c2, c3, c4⟩
  · rw [if_pos c1, if_pos c1, c2, c3]
    exact ⟨rfl, HR_no h1, h2, h3⟩
  · have n : ¬ w.1 < 0 := Int32.not_lt.mpr c1
    rw [if_neg n, if_neg n]
    have f : ∀ f, f ≠ 0 → f ≠ 1 → m.2 f = μ f := fun f f0 f1 => (c4.1 f f0).trans (saves_f f0 f1)
    refine ⟨c2, HR_yes h1 c3 c4.2 (c4.1 1 (by decide)) (f 2 (by decide) (by decide)) (f 3 (by decide) (by decide)), tR_f h2 rfl rfl (f 4 (by decide) (by decide)) (f 5 (by decide) (by decide)), ?_⟩
    unfold okT tl ta
    rw [f 5 (by decide) (by decide), f 6 (by decide) (by decide)]
    exact h3
theorem IV_undo (h : IV ρ sp kp τ μ) : (m_X4_undo μ).1 = rs_v kp ∧ IV (rs_ρ ρ sp kp) (rs_sp sp kp) (kp - 1) τ (m_X4_undo μ).2 := by
  obtain ⟨h1, h2, h3⟩ := h
  obtain ⟨a, b, c⟩ := HR_undo h1
  refine ⟨a, b, tR_f h2 rfl rfl (c 4 (by decide)) (c 5 (by decide)), ?_⟩
  unfold okT tl ta
  rw [c 5 (by decide), c 6 (by decide)]
  exact h3
theorem HR_f (h : HR ρ sp kp μ) {μ' : Nat → Nat → Int32} (e0 : μ' 0 = μ 0) (e1 : μ' 1 = μ 1) (e2 : μ' 2 = μ 2) (e3 : μ' 3 = μ 3) : HR ρ sp kp μ' := by
  unfold HR
  rw [e0, e1, e2, e3]
  exact h
theorem IV_type (h : IV ρ sp kp τ μ) (x : Int32) : (m_X4_type μ x).1 = (m_X1_append τ x).1 ∧ IV ρ sp kp (m_X1_append τ x).2 (m_X4_type μ x).2 := by
  obtain ⟨h1, h2, h3⟩ := h
  have hl : μ 5 0 = nI (xl τ) := by rw [← h2.2.2.1]; exact h2.1.1
  have hx := h2.1.2
  have etl : tl μ = xl τ := congrArg tn h2.2.2.1.symm
  unfold m_X4_type m_X1_append
  rw [e_in]
  by_cases a : x < 0
  · have b : f_X2_isBetween x 0 255 = 0 := by unfold f_X2_isBetween; rw [if_pos a]
    rw [if_pos a, if_pos b]; exact ⟨rfl, h1, h2, h3⟩
  rw [if_neg a]
  by_cases b : x ≤ 255
  rotate_left
  · have b' : f_X2_isBetween x 0 255 = 0 := by unfold f_X2_isBetween; rw [if_neg a, if_pos (Int32.not_le.mp b)]
    rw [if_neg b, if_pos b']; exact ⟨rfl, h1, h2, h3⟩
  have b' : ¬ f_X2_isBetween x 0 255 = 0 := by unfold f_X2_isBetween; rw [if_neg a, if_neg (Int32.not_lt.mpr b)]; decide
  rw [if_pos b, if_neg b']
  have e100 : (μ 5 0 = 100) = ¬ xl τ < 100 := by rw [hl]; exact f_lt (n := xl τ) (m := 100) rfl hx (by decide)
  by_cases c : xl τ < 100
  rotate_left
  · rw [if_neg c, if_pos (by rw [e100]; exact c)]; exact ⟨rfl, h1, h2, h3⟩
  rw [if_pos c, if_neg (by rw [e100]; exact fun z => z c), etl, h2.2.2.1]
  have bx : bnd x 0 255 := by
    rw [Int32.lt_iff_toInt_lt, show (0 : Int32).toInt = 0 by decide] at a
    rw [Int32.le_iff_toInt_le, show (255 : Int32).toInt = 255 by decide] at b
    exact ⟨by omega, b⟩
  refine ⟨rfl, HR_f h1 rfl rfl rfl rfl, ⟨?_, fun k hk => ?_, ?_, fun k => ?_⟩, ?_⟩
  · have q : μ 5 0 + 1 = nI (xl τ + 1) := by rw [hl, nI_1]
    unfold okX xl
    dsimp only
    rw [shS_eq, q, tn_nI (by omega)]
    exact ⟨rfl, by omega⟩
  · show shU τ 0 (xl τ) x 0 k = shU μ 4 (xl τ) x 4 k
    by_cases d : k = xl τ
    · rw [d, shU_eq, shU_eq]
    · rw [shU_ne d, shU_ne d]; exact h2.2.1 k hk
  · show μ 5 0 + 1 = μ 5 0 + 1
    rfl
  · show bnd (shU τ 0 (xl τ) x 0 k) 0 255
    by_cases d : k = xl τ
    · rw [d, shU_eq]; exact bx
    · rw [shU_ne d]; exact h2.2.2.2 k
  · have q : μ 5 0 + 1 = nI (xl τ + 1) := by rw [hl, nI_1]
    refine ⟨?_, h3.2.1, h3.2.2⟩
    unfold tl
    dsimp only
    rw [shS_eq, q, tn_nI (by omega)]
    exact ⟨rfl, by omega⟩
theorem IV_clear (h : IV ρ sp kp τ μ) : (m_X4_clearText μ).1 = (m_X1_empty τ).1 ∧ IV ρ sp kp (m_X1_empty τ).2 (m_X4_clearText μ).2 := by
  obtain ⟨h1, h2, h3⟩ := h
  have t0 : tn 0 = 0 := by decide
  refine ⟨h2.2.2.1.symm, HR_f h1 rfl rfl rfl rfl, ⟨⟨?_, ?_⟩, h2.2.1, rfl, h2.2.2.2⟩, ⟨⟨?_, ?_⟩, h3.2.1, h3.2.2⟩⟩
  · show (0 : Int32) = nI (tn 0)
    rw [t0]; rfl
  · show tn 0 ≤ 100
    rw [t0]; omega
  · show (0 : Int32) = nI (tn 0)
    rw [t0]; rfl
  · show tn 0 ≤ 100
    rw [t0]; omega
theorem IV_ok (h : IV ρ sp kp τ μ) : okM μ ∧ okS (ρ 0) ∧ okX τ ∧ sp < 6 ∧ kp ≤ 5 ∧ rl (ρ 0) (μ 0) := ⟨HR_ok h.1, h.1.2.2.2.1.1, h.2.1.1, h.1.1, h.1.2.1, h.1.2.2.2.1⟩
theorem IV_fault (h : IV ρ sp kp τ μ) : (m_X4_textFault μ).1 = (m_X1_faultOf τ).1 ∧ IV ρ sp kp (m_X1_faultOf τ).2 (m_X4_textFault μ).2 := by
  obtain ⟨h1, h2, h3⟩ := h
  have q := q_textFault h2
  rw [q.2]
  refine ⟨q.1, HR_f h1 (rt_f0 (by decide)) (rt_f0 (by decide)) (rt_f0 (by decide)) (rt_f0 (by decide)), tR_f h2 (fo_f (by decide)) (fo_f (by decide)) (rt_f0 (by decide)) (rt_f0 (by decide)), ?_⟩
  exact (readsText_ok (HR_ok h1) h3.1).2.1
theorem IV_orders (h : IV ρ sp kp τ μ) : (m_X4_orders μ).1 = or_v (ρ 0) τ ∧ IV (or_ρ ρ sp τ) (if (m_X1_faultOf τ).1 = (-1) then st_sp (nI (r_X3_orders (ρ 0) τ).1) sp else sp) (if (m_X1_faultOf τ).1 = (-1) then st_kp (nI (r_X3_orders (ρ 0) τ).1) kp else kp) (or_τ (ρ 0) τ) (m_X4_orders μ).2 := by
  obtain ⟨h1, h2, h3⟩ := h
  have r0 : ∀ f, f < 6 → (m_X4_readsText μ 0).2 f = μ f := fun f hf => rt_f0 hf
  have ok0 := readsText_ok (x := 0) (HR_ok h1) h3.1
  have h1' : HR ρ sp kp (m_X4_readsText μ 0).2 := HR_f h1 (r0 0 (by decide)) (r0 1 (by decide)) (r0 2 (by decide)) (r0 3 (by decide))
  have h2' : tR (m_X1_faultOf τ).2 (m_X4_readsText μ 0).2 := tR_f h2 (fo_f (by decide)) (fo_f (by decide)) (r0 4 (by decide)) (r0 5 (by decide))
  have hq := q_text h2
  have hT : TS (s_X1_startReading τ) (shS (shS (shS (s_X4_saves (m_X4_readsText μ 0).2) 6 0) 8 0) 9 1) := tR_start (tR_f h2 rfl rfl ((saves_f (by decide) (by decide)).trans (r0 4 (by decide))) ((saves_f (by decide) (by decide)).trans (r0 5 (by decide))))
  have hT2 : TS (s_X1_startReading (m_X1_faultOf τ).2) (shS (shS (shS (s_X4_saves (m_X4_readsText μ 0).2) 6 0) 8 0) 9 1) := tR_start (tR_f h2' rfl rfl (saves_f (by decide) (by decide)) (saves_f (by decide) (by decide)))
  have eF : (g_X1_faultOf_6 τ 102 0 (s_X1_startReading τ)).1 = (m_X1_faultOf τ).1 := rfl
  have okS' := saves_ok ok0.1
  have ok1 := readsText_ok (μ := s_X4_saves (m_X4_readsText μ 0).2) (x := 1) okS' (by
    unfold tl
    rw [saves_f (f := 5) (by decide) (by decide)]
    exact ok0.2.1.1)
  have hok := HR_ok h1'
  unfold m_X4_orders or_v or_ρ or_τ r_X3_orders
  generalize (m_X4_readsText μ 0) = T0 at *
  rcases hq with ⟨a, b, c⟩ | ⟨a, b⟩
  · rw [if_pos a, if_neg c, if_neg c, if_neg c, if_neg c, if_neg c]
    exact ⟨rfl, h1', h2', ok0.2.1⟩
  · have na : ¬ T0.1 = 0 := by rw [a]; decide
    rw [if_neg na, if_pos b, if_pos b, if_pos b, if_pos b, if_pos b]
    have g := orders_g τ (s_X4_saves T0.2) 101 0 203 102 (s_X1_startReading τ) (s_X1_startReading (m_X1_faultOf τ).2) (shS (shS (shS (s_X4_saves T0.2) 6 0) 8 0) 9 1) (ρ 0) (by omega) (by omega) (by omega) (by omega) (show (1 : Int32) ≠ 0 by decide) (show (1 : Int32) ≠ 0 by decide) hT hT2 (eF.trans b) (by rw [shS_f (by decide), shS_f (by decide), shS_f (by decide)]; exact rl_saves h1'.2.2.2.1 hok) rfl rfl
    have eP : (m_X4_readsText (s_X4_saves T0.2) 1).2 = (g_X4_readsText_26 (s_X4_saves T0.2) 1 203 (m_X4_readsOrder (shS (shS (shS (s_X4_saves T0.2) 6 0) 8 0) 9 1) 1).1 (m_X4_here (m_X4_readsOrder (shS (shS (shS (s_X4_saves T0.2) 6 0) 8 0) 9 1) 1).2).1 (m_X4_here (m_X4_readsOrder (shS (shS (shS (s_X4_saves T0.2) 6 0) 8 0) 9 1) 1).2).2).2 := by
      unfold m_X4_readsText
      with_reducible rfl
    rw [← eP] at g
    dsimp only
    generalize (m_X4_readsText (s_X4_saves T0.2) 1).2 = P at *
    generalize g_X3_orders 101 0 (s_X1_startReading (m_X1_faultOf τ).2) (ρ 0) = Q at *
    obtain ⟨p1, p2, p3, p4, p5, p6, p7⟩ := g
    have n : ¬ nI Q.1 < 0 := nI_pos (by omega)
    unfold st_sp st_kp
    rw [if_neg n, if_neg n]
    have ej : ∀ j, 413 ≤ j → P 0 j = s_X4_saves T0.2 0 j := fun j hj => (p4 j hj).trans rfl
    have e1 : P 1 = s_X4_saves T0.2 1 := (p5 1 (by decide) (by decide)).trans rfl
    have ef : ∀ f, 2 ≤ f → f < 6 → P f = T0.2 f := fun f f2 f6 => by
      rw [p5 f (by omega) f6, shS_f (by omega), shS_f (by omega), shS_f (by omega)]
      exact saves_f (by omega) (by omega)
    have e60 : Q.2.1 0 = (m_X1_faultOf τ).2 0 := p6.trans rfl
    have e61 : Q.2.1 1 = (m_X1_faultOf τ).2 1 := p7.trans rfl
    exact ⟨p1, HR_yes h1' p3 ej e1 (ef 2 (by decide) (by decide)) (ef 3 (by decide) (by decide)), tR_f h2' e60 e61 (ef 4 (by decide) (by decide)) (ef 5 (by decide) (by decide)), ok1.2.1⟩
end HI

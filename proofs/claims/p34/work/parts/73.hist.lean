/-! ===== copies by their states and customers, the next copy ===== -/
section HIST
variable {σ : ST}
theorem if_iff {p q : Prop} [Decidable p] [Decidable q] (h : p ↔ q) : (if p then 1 else 0) = (if q then 1 else 0 : Nat) := by
  by_cases c : p
  · rw [if_pos c, if_pos (h.mp c)]
  · rw [if_neg c, if_neg (fun z => c (h.mpr z))]
theorem rb_iff {k : Nat} {y : Int32} : ¬ f_X2_isRentedBy σ k y = 0 ↔ (σ 13 k = 1 ∧ σ 14 k = y) := by
  rw [rb2]
  exact ⟨fun q => Decidable.byContradiction q, fun q z => z q⟩
theorem upd_1 {ω : Nat → Int32} {s j : Nat} : (upd ω s (ω s + 1)) j = ω j + nI (if s = j then 1 else 0) := by
  by_cases c : s = j
  · subst c; rw [pk_us, if_pos rfl]; rfl
  · rw [pk_un (fun q => c q.symm), if_neg c, nI_zero, Int32.add_zero]
theorem sN_le1 {p : Nat → Prop} [DecidablePred p] (h : okS σ) : sN (fun k => if p k then 1 else 0) (nN σ) ≤ 60 := by
  have h1 := sN_b (f := fun k => if p k then 1 else 0) 1 (n := nN σ) (fun k _ => by show (if p k then 1 else 0) ≤ 1; split <;> omega)
  have := (okS_b h).2.2
  omega
theorem hist_lo (h : bq σ) {j : Nat} (hj : j < 5) : ∀ (fu k : Nat) (ω : Nat → Int32), k ≤ nN σ → nN σ - k < fu → g_L_isSound_7 σ fu k ω j + nI (sN (fun k => if stt σ k = j then 1 else 0) k) = ω j + nI (sN (fun k => if stt σ k = j then 1 else 0) (nN σ)) := by
  intro fu
  induction fu with
  | zero => intro k ω _ hm; exact absurd hm (Nat.not_lt_zero _)
  | succ fu ih =>
    intro k ω hk hm
    rw [g_L_isSound_7]
    by_cases c : nN σ ≤ k
    · rw [if_pos c, show k = nN σ by omega]
    · rw [if_neg c]
      have e : sN (fun k => if stt σ k = j then 1 else 0) (k + 1) = sN (fun k => if stt σ k = j then 1 else 0) k + (if stt σ k = j then 1 else 0) := rfl
      by_cases d : f_X2_copyProperty σ (nI k) 3 = 1
      · rw [if_pos d]
        have q := ih (k + 1) (upd (upd ω (stt σ k) ((ω (stt σ k)) + 1)) (5 + (rOf σ k)) (((upd ω (stt σ k) ((ω (stt σ k)) + 1)) (5 + (rOf σ k))) + 1)) (by omega) (by omega)
        have v : (upd (upd ω (stt σ k) ((ω (stt σ k)) + 1)) (5 + (rOf σ k)) (((upd ω (stt σ k) ((ω (stt σ k)) + 1)) (5 + (rOf σ k))) + 1)) j = ω j + nI (if stt σ k = j then 1 else 0) := (pk_un (f := upd ω (stt σ k) ((ω (stt σ k)) + 1)) (show j ≠ 5 + rOf σ k by omega)).trans upd_1
        rw [e, ← nI_add, ← Int32.add_assoc, v, add_r (ω j)] at q
        exact i_cancel q
      · rw [if_neg d]
        have q := ih (k + 1) (upd ω (stt σ k) ((ω (stt σ k)) + 1)) (by omega) (by omega)
        rw [e, ← nI_add, ← Int32.add_assoc, upd_1, add_r (ω j)] at q
        exact i_cancel q
theorem hist_hi (h : bq σ) {j : Nat} (hj : j < 8) : ∀ (fu k : Nat) (ω : Nat → Int32), k ≤ nN σ → nN σ - k < fu → g_L_isSound_7 σ fu k ω (5 + j) + nI (sN (fun k => if ¬ f_X2_isRentedBy σ k (nI j) = 0 then 1 else 0) k) = ω (5 + j) + nI (cR σ j) := by
  intro fu
  induction fu with
  | zero => intro k ω _ hm; exact absurd hm (Nat.not_lt_zero _)
  | succ fu ih =>
    intro k ω hk hm
    rw [g_L_isSound_7]
    by_cases c : nN σ ≤ k
    · rw [if_pos c, show k = nN σ by omega]; rfl
    · have hkn : k < nN σ := by omega
      have s5 := (st5 h hkn).2
      rw [if_neg c, cp3 h.1 hkn]
      have e : sN (fun k => if ¬ f_X2_isRentedBy σ k (nI j) = 0 then 1 else 0) (k + 1) = sN (fun k => if ¬ f_X2_isRentedBy σ k (nI j) = 0 then 1 else 0) k + (if ¬ f_X2_isRentedBy σ k (nI j) = 0 then 1 else 0) := rfl
      by_cases d : σ 13 k = 1
      · rw [if_pos d]
        have q := ih (k + 1) (upd (upd ω (stt σ k) ((ω (stt σ k)) + 1)) (5 + (rOf σ k)) (((upd ω (stt σ k) ((ω (stt σ k)) + 1)) (5 + (rOf σ k))) + 1)) (by omega) (by omega)
        obtain ⟨r1, r2⟩ := okS_r h.1 hkn d
        have w : (if 5 + rOf σ k = 5 + j then 1 else 0) = (if ¬ f_X2_isRentedBy σ k (nI j) = 0 then 1 else 0) := by
          by_cases z : rOf σ k = j
          · rw [if_pos (by omega), if_pos (rb_iff.mpr ⟨d, by rw [r1, z]⟩)]
          · rw [if_neg (by omega), if_neg]
            intro q
            have y2 := (rb_iff.mp q).2
            rw [r1] at y2
            exact z ((nI_eq (by omega) (by omega)).mp y2)
        have v : (upd (upd ω (stt σ k) ((ω (stt σ k)) + 1)) (5 + (rOf σ k)) (((upd ω (stt σ k) ((ω (stt σ k)) + 1)) (5 + (rOf σ k))) + 1)) (5 + j) = ω (5 + j) + nI (if 5 + rOf σ k = 5 + j then 1 else 0) := upd_1.trans (congrArg (fun z => z + nI (if 5 + rOf σ k = 5 + j then 1 else 0)) (pk_un (show 5 + j ≠ stt σ k by omega)))
        rw [e, ← nI_add, ← Int32.add_assoc, v, w, add_r (ω (5 + j))] at q
        exact i_cancel q
      · rw [if_neg d]
        have q := ih (k + 1) (upd ω (stt σ k) ((ω (stt σ k)) + 1)) (by omega) (by omega)
        have w : (if ¬ f_X2_isRentedBy σ k (nI j) = 0 then 1 else 0) = 0 := if_neg (fun q => d (rb_iff.mp q).1)
        rw [e, w, Nat.add_zero, pk_un (show 5 + j ≠ stt σ k by omega)] at q
        exact q
def hG (σ : ST) : Nat → Int32 := g_L_isSound_7 σ (nN σ + 1) 0 (fun _ => 0)
theorem hG_lo (h : bq σ) {j : Nat} (hj : j < 5) : hG σ j = nI (sN (fun k => if stt σ k = j then 1 else 0) (nN σ)) := by
  have q := hist_lo h hj (nN σ + 1) 0 (fun _ => 0) (by omega) (by omega)
  have e : sN (fun k => if stt σ k = j then 1 else 0) 0 = 0 := rfl
  rw [e, nI_zero, Int32.add_zero, i_z] at q
  exact q
theorem hG_hi (h : bq σ) {j : Nat} (hj : j < 8) : hG σ (5 + j) = nI (cR σ j) := by
  have q := hist_hi h hj (nN σ + 1) 0 (fun _ => 0) (by omega) (by omega)
  have e : sN (fun k => if ¬ f_X2_isRentedBy σ k (nI j) = 0 then 1 else 0) 0 = 0 := rfl
  rw [e, nI_zero, Int32.add_zero, i_z] at q
  exact q
theorem in_st (h : bq σ) {j : Nat} (hj : j < 5) : f_X2_copiesIn σ (nI j) = nI (sN (fun k => if stt σ k = j then 1 else 0) (nN σ)) := by
  rw [n_copiesIn]
  refine congrArg nI (sN_congr (fun k hk => ?_))
  obtain ⟨s1, s2⟩ := st5 h hk
  show (if σ 13 k = nI j then 1 else 0) = (if stt σ k = j then 1 else 0)
  exact if_iff (by rw [s1, nI_eq (by omega) (by omega)])
theorem hG_in (h : bq σ) {j : Nat} (hj : j < 5) : f_X2_copiesIn σ (nI j) = hG σ j := by rw [in_st h hj, hG_lo h hj]
theorem hG_all (h : bq σ) : (((hG σ 0 + hG σ 1) + hG σ 2) + hG σ 3) + hG σ 4 = nI (nN σ) := by
  rw [hG_lo h (by decide), hG_lo h (by decide), hG_lo h (by decide), hG_lo h (by decide), hG_lo h (by decide), nI_add, nI_add, nI_add, nI_add, ← sN_add, ← sN_add, ← sN_add, ← sN_add]
  refine congrArg nI ((sN_congr (fun k hk => ?_)).trans sN_one)
  have s2 := (st5 h hk).2
  show (((if stt σ k = 0 then 1 else 0) + (if stt σ k = 1 then 1 else 0)) + (if stt σ k = 2 then 1 else 0)) + (if stt σ k = 3 then 1 else 0) + (if stt σ k = 4 then 1 else 0) = 1
  rcases (show stt σ k = 0 ∨ stt σ k = 1 ∨ stt σ k = 2 ∨ stt σ k = 3 ∨ stt σ k = 4 by omega) with c | c | c | c | c <;> simp [c]
theorem all_t (h : INV σ) : g_L_isSound_450 σ (nT σ + 1) 0 0 = nI (nN σ) := by
  have hok := iv_ok h
  have e : sI (fun k => f_X2_titleProperty σ (nI k) 5) (nT σ) = sI (fun t => nI (sN (fun k => if σ 10 k = nI t then 1 else 0) (nN σ))) (nT σ) := sI_congr (fun t ht => by
    show f_X2_titleProperty σ (nI t) 5 = _
    rw [tp5 hok ht, n_copiesOf])
  rw [s_all, e, sI_nI, sN_comm]
  refine congrArg nI ((sN_congr (fun k hk => ?_)).trans sN_one)
  have t1 := okS_t hok hk
  have t2 := iv_t h hk
  have b := okS_b hok
  have e2 : sN (fun t => if σ 10 k = nI t then 1 else 0) (nT σ) = sN (fun t => if tOf σ k = t then 1 else 0) (nT σ) := sN_congr (fun t ht => by
    show (if σ 10 k = nI t then 1 else 0) = (if tOf σ k = t then 1 else 0)
    exact if_iff (by rw [t1.1, nI_eq (by omega) (by omega)]))
  show sN (fun t => if σ 10 k = nI t then 1 else 0) (nT σ) = 1
  rw [e2, sN_at, if_pos t2]
/-- the next copy of a course -/
def okC (σ : ST) (j k : Nat) : Prop := σ 13 k = 0 ∧ ¬ f_X2_suits σ k j = 0
theorem best_g {jc : Nat} (hN : nN σ ≤ 60) : ∀ (fu k : Nat) (x : Int32), k ≤ nN σ → nN σ - k < fu → ((x = -1 ∧ ∀ i, i < k → ¬ okC σ jc i) ∨ ∃ b, b < nN σ ∧ x = nI b ∧ okC σ jc b) →
    ((g_X2_bestFor_4 σ jc fu k x = -1 ∧ ∀ i, i < nN σ → ¬ okC σ jc i) ∨ ∃ b, b < nN σ ∧ g_X2_bestFor_4 σ jc fu k x = nI b ∧ okC σ jc b) := by
  intro fu
  induction fu with
  | zero => intro k x _ hm; exact absurd hm (Nat.not_lt_zero _)
  | succ fu ih =>
    intro k x hk hm hP
    rw [g_X2_bestFor_4]
    by_cases c : nN σ ≤ k
    · rw [if_pos c]
      rcases hP with ⟨e, q⟩ | q
      · exact Or.inl ⟨e, fun i hi => q i (by omega)⟩
      · exact Or.inr q
    · rw [if_neg c]
      have skip : ¬ okC σ jc k → ((x = -1 ∧ ∀ i, i < k + 1 → ¬ okC σ jc i) ∨ ∃ b, b < nN σ ∧ x = nI b ∧ okC σ jc b) := fun no => by
        rcases hP with ⟨e, q⟩ | q
        · refine Or.inl ⟨e, fun i hi => ?_⟩
          by_cases z : i = k
          · subst z; exact no
          · exact q i (by omega)
        · exact Or.inr q
      by_cases d1 : σ 13 k = 0
      · rw [if_pos d1]
        by_cases d2 : f_X2_suits σ k jc = 0
        · rw [if_pos d2]
          exact ih _ _ (by omega) (by omega) (skip (fun q => q.2 d2))
        · rw [if_neg d2]
          have here : ∃ b, b < nN σ ∧ nI k = nI b ∧ okC σ jc b := ⟨k, by omega, rfl, d1, d2⟩
          by_cases d3 : x = (-1)
          · rw [if_pos d3]
            exact ih _ _ (by omega) (by omega) (Or.inr here)
          · rw [if_neg d3]
            by_cases d4 : f_X2_goesAhead σ k (tn x) = 0
            · rw [if_pos d4]
              exact ih _ _ (by omega) (by omega) (Or.inr (hP.resolve_left (fun q => d3 q.1)))
            · rw [if_neg d4]
              exact ih _ _ (by omega) (by omega) (Or.inr here)
      · rw [if_neg d1]
        exact ih _ _ (by omega) (by omega) (skip (fun q => d1 q.1))
theorem best_spec (h : okS σ) (jc : Nat) : (f_X2_bestFor σ jc = -1 ∧ ∀ i, i < nN σ → ¬ okC σ jc i) ∨ ∃ b, b < nN σ ∧ f_X2_bestFor σ jc = nI b ∧ okC σ jc b :=
  best_g (okS_b h).2.2 (nN σ + 1) 0 (-1) (by omega) (by omega) (Or.inl ⟨rfl, fun i hi => absurd hi (Nat.not_lt_zero _)⟩)
theorem best_nn (h : okS σ) {b : Nat} (hb : b < nN σ) : ¬ nI b < 0 := nI_pos (by have := (okS_b h).2.2; omega)
end HIST

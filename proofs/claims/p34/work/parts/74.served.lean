/-! ===== students served: no more than copies in stock ===== -/
section SERVED
variable {σ : ST}
theorem b_students (h : bq σ) (x y : Int32) : bnd (f_X2_studentsFrom σ x y) 0 1200 := by
  have g : ∀ (fu k : Nat) (a : Int32), k ≤ 6 → bnd a 0 (200 * k) → bnd (g_X2_studentsFrom_5 σ x y fu k a) 0 1200 := by
    intro fu
    induction fu with
    | zero => intro k a hk ha; exact bnd_w ha (Int.le_refl _) (by omega)
    | succ fu ih =>
      intro k a hk ha
      rw [g_X2_studentsFrom_5]
      by_cases c : nC σ ≤ k
      · rw [if_pos c]; exact bnd_w ha (Int.le_refl _) (by omega)
      · have k6 := rl_6 h (Nat.lt_of_not_le c)
        have i1 := ih (k + 1) (a + σ 9 k) (by omega) (bnd_w (b_add ha (rl_b9 h k6)) (by omega) (by omega))
        have i0 := ih (k + 1) a (by omega) (bnd_w ha (by omega) (by omega))
        rw [if_neg c]
        (repeat' split) <;> assumption
  exact g _ _ _ (by omega) b_0
theorem served_g (h : bq σ) (x : Int32) (s : Nat → Nat) (hs : ∀ w, f_X2_stockOfEdition σ x (nI w) = nI (s w)) (hb : ∀ w, s w ≤ 60) : ∀ (fu w a b : Nat), w < fu → w ≤ 30 → a + b ≤ 60 * (30 - w) →
    ∃ r, g_X2_servedWith_8 σ x fu w (nI a) (nI b) = nI r ∧ r ≤ b + a + sN (fun e => s (e + 1)) w := by
  intro fu
  induction fu with
  | zero => intro w a b hm; exact absurd hm (Nat.not_lt_zero _)
  | succ fu ih =>
    intro w a b hm hw ha
    rw [g_X2_servedWith_8]
    cases w with
    | zero => exact ⟨b, if_pos (by omega), by omega⟩
    | succ v =>
      rw [if_neg (by omega), hs, nI_add]
      have sv := hb (v + 1)
      have e : sN (fun e => s (e + 1)) (v + 1) = sN (fun e => s (e + 1)) v + s (v + 1) := rfl
      have bs := b_students h x (nI (v + 1))
      have es := tn_pos (b_nn bs (by decide))
      generalize f_X2_studentsFrom σ x (nI (v + 1)) = u at bs es
      by_cases c : u < nI (a + s (v + 1))
      · rw [if_pos c]
        have hu : tn u < 2 ^ 31 := by
          obtain ⟨j, hj, q⟩ := nI_of (x := u) (fun q => Int32.not_le.mpr q (b_nn bs (by decide)))
          rw [q, tn_nI hj]; exact hj
        rw [es] at c
        have c2 := (nI_ltI hu (by omega)).mp c
        rw [es, pk_sub (by omega), nI_add]
        obtain ⟨r, h1, h2⟩ := ih v (a + s (v + 1) - tn u) (b + tn u) (by omega) (by omega) (by omega)
        exact ⟨r, h1, by rw [e]; omega⟩
      · rw [if_neg c, pk_sub (Nat.le_refl _), nI_add]
        obtain ⟨r, h1, h2⟩ := ih v (a + s (v + 1) - (a + s (v + 1))) (b + (a + s (v + 1))) (by omega) (by omega) (by omega)
        exact ⟨r, h1, by rw [e]; omega⟩
theorem one_of {p : Nat → Prop} [DecidablePred p] {q : Nat} (hp : ∀ e, p e → q = e) {n : Nat} : sN (fun e => if p e then 1 else 0) n ≤ 1 := by
  have h1 : sN (fun e => if p e then 1 else 0) n ≤ sN (fun e => if q = e then 1 else 0) n := sN_le (fun e _ => by
    show (if p e then 1 else 0) ≤ (if q = e then 1 else 0)
    by_cases c : p e
    · rw [if_pos c, if_pos (hp e c)]; exact Nat.le_refl _
    · rw [if_neg c]; exact Nat.zero_le _)
  rw [sN_at] at h1
  split at h1 <;> omega
theorem served_w (h : bq σ) (x : Int32) : ∃ r, f_X2_servedWith σ x = nI r ∧ r ≤ sN (fun k => if σ 10 k = x ∧ σ 13 k = 0 then 1 else 0) (nN σ) := by
  obtain ⟨r, h1, h2⟩ := served_g h x (fun w => sN (fun k => if σ 10 k = x ∧ σ 11 k = nI w ∧ σ 13 k = 0 then 1 else 0) (nN σ)) (fun w => n_stockOfEdition x (nI w)) (fun w => sN_le1 h.1) 31 30 0 0 (by omega) (by omega) (by omega)
  refine ⟨r, h1, Nat.le_trans h2 ?_⟩
  rw [Nat.zero_add]
  show sN (fun e => sN (fun k => if σ 10 k = x ∧ σ 11 k = nI (e + 1) ∧ σ 13 k = 0 then 1 else 0) (nN σ)) 30 ≤ _
  have b30 : ∀ e, e < 30 → e + 1 < 2 ^ 31 := fun e he => by omega
  rw [sN_comm]
  refine sN_le (fun k hk => ?_)
  show sN (fun e => if σ 10 k = x ∧ σ 11 k = nI (e + 1) ∧ σ 13 k = 0 then 1 else 0) 30 ≤ (if σ 10 k = x ∧ σ 13 k = 0 then 1 else 0)
  by_cases c : σ 10 k = x ∧ σ 13 k = 0
  · rw [if_pos c]
    have e1 : sN (fun e => if σ 10 k = x ∧ σ 11 k = nI (e + 1) ∧ σ 13 k = 0 then 1 else 0) 30 = sN (fun e => if σ 11 k = nI (e + 1) ∧ e < 30 then 1 else 0) 30 := sN_congr (fun e he => if_iff ⟨fun q => ⟨q.2.1, he⟩, fun q => ⟨c.1, q.1, c.2⟩⟩)
    rw [e1]
    refine one_of (q := tn (σ 11 k) - 1) (fun e q => ?_)
    rw [q.1, tn_nI (b30 e q.2)]
    omega
  · rw [if_neg c]
    have e1 : sN (fun e => if σ 10 k = x ∧ σ 11 k = nI (e + 1) ∧ σ 13 k = 0 then 1 else 0) 30 = sN (fun _ => 0) 30 := sN_congr (fun e _ => if_neg (fun q => c ⟨q.1, q.2.2⟩))
    rw [e1, sN_zero]
    exact Nat.le_refl _
theorem sI_ex {f : Nat → Int32} {c : Nat → Nat} : ∀ {n : Nat}, (∀ t, t < n → ∃ r, f t = nI r ∧ r ≤ c t) → ∃ r, sI f n = nI r ∧ r ≤ sN c n
  | 0, _ => ⟨0, rfl, Nat.le_refl _⟩
  | n + 1, h => by
    obtain ⟨r, h1, h2⟩ := sI_ex (f := f) (c := c) (n := n) (fun t ht => h t (by omega))
    obtain ⟨u, g1, g2⟩ := h n (by omega)
    refine ⟨r + u, ?_, Nat.add_le_add h2 g2⟩
    show sI f n + f n = _
    rw [h1, g1, nI_add]
theorem served_le (h : bq σ) : ¬ f_X2_numberOf σ 4 < f_X2_servedStudents σ := by
  have e4 : f_X2_numberOf σ 4 = f_X2_copiesIn σ 0 := rfl
  rw [e4, n_copiesIn, s_served]
  obtain ⟨r, h1, h2⟩ := sI_ex (f := fun k => f_X2_servedWith σ (nI k)) (c := fun t => sN (fun k => if σ 10 k = nI t ∧ σ 13 k = 0 then 1 else 0) (nN σ)) (n := nT σ) (fun t _ => served_w h (nI t))
  have b := okS_b h.1
  have h3 : sN (fun t => sN (fun k => if σ 10 k = nI t ∧ σ 13 k = 0 then 1 else 0) (nN σ)) (nT σ) ≤ sN (fun k => if σ 13 k = 0 then 1 else 0) (nN σ) := by
    rw [sN_comm]
    refine sN_le (fun k hk => ?_)
    show sN (fun t => if σ 10 k = nI t ∧ σ 13 k = 0 then 1 else 0) (nT σ) ≤ (if σ 13 k = 0 then 1 else 0)
    by_cases c : σ 13 k = 0
    · rw [if_pos c]
      have e1 : sN (fun t => if σ 10 k = nI t ∧ σ 13 k = 0 then 1 else 0) (nT σ) = sN (fun t => if σ 10 k = nI t ∧ t < nT σ then 1 else 0) (nT σ) := sN_congr (fun t ht => if_iff ⟨fun q => ⟨q.1, ht⟩, fun q => ⟨q.1, c⟩⟩)
      rw [e1]
      refine one_of (q := tOf σ k) (fun t q => ?_)
      show tn (σ 10 k) = t
      rw [q.1, tn_nI (by omega)]
    · rw [if_neg c]
      have e1 : sN (fun t => if σ 10 k = nI t ∧ σ 13 k = 0 then 1 else 0) (nT σ) = sN (fun _ => 0) (nT σ) := sN_congr (fun t _ => if_neg (fun q => c q.2))
      rw [e1, sN_zero]
      exact Nat.le_refl _
  rw [h1]
  have := sN_le1 (p := fun k => σ 13 k = 0) h.1
  exact nI_nlt (Nat.le_trans h2 h3) (by omega)
end SERVED

/-! ===== days lose what was told ===== -/
section PASS
variable {σ : ST}
theorem lost_congr {ω : ST} {k : Nat} {d : Int32} (e13 : ω 13 k = σ 13 k) (e15 : ω 15 = σ 15) (e4 : ω 4 = σ 4) : f_X2_isLostOn ω k d = f_X2_isLostOn σ k d := by
  unfold f_X2_isLostOn
  rw [e13, e15, e4]
theorem sN_set {f g : Nat → Nat} {j : Nat} (h : ∀ k, k ≠ j → f k = g k) (hj : f j = g j + 1) : ∀ {n : Nat}, j < n → sN f n = sN g n + 1 := by
  intro n
  induction n with
  | zero => intro q; exact absurd q (Nat.not_lt_zero _)
  | succ n ih =>
    intro q
    show sN f n + f n = sN g n + g n + 1
    by_cases c : n = j
    · subst c
      rw [sN_congr (fun k hk => h k (by omega)), hj]
      omega
    · rw [ih (by omega), h n c]
      omega
def c3 (σ : ST) (n : Nat) : Nat := sN (fun j => if σ 13 j = 3 then 1 else 0) n
def lF (σ : ST) (d : Int32) (k : Nat) : Nat := if ¬ f_X2_isLostOn σ k d = 0 then 1 else 0
theorem passes_n {x : Int32} {σ0 : ST} : ∀ (fu k : Nat) (a : Int32) (ω : ST), (∀ j, k ≤ j → ω 13 j = σ 13 j) → ω 15 = σ 15 → ω 4 = σ 4 → ω 0 = σ 0 → nN ω = nN σ → k ≤ nN σ → nN σ - k < fu →
    (g_X2_passDays_42 σ0 x fu k a ω).1 + nI (sN (lF σ (σ 0 0)) k) = a + nI (sN (lF σ (σ 0 0)) (nN σ)) ∧ c3 (g_X2_passDays_42 σ0 x fu k a ω).2 (nN σ) + sN (lF σ (σ 0 0)) k = c3 ω (nN σ) + sN (lF σ (σ 0 0)) (nN σ) ∧ nN (g_X2_passDays_42 σ0 x fu k a ω).2 = nN σ := by
  intro fu
  induction fu with
  | zero => intro k a ω _ _ _ _ _ _ hm; exact absurd hm (Nat.not_lt_zero _)
  | succ fu ih =>
    intro k a ω e13 e15 e4 e0 en hk hm
    rw [g_X2_passDays_42]
    by_cases c : nN ω ≤ k
    · rw [if_pos c, show k = nN σ by omega]; exact ⟨rfl, rfl, en⟩
    · rw [if_neg c]
      have hd : ω 0 0 = σ 0 0 := congrFun e0 0
      have es : sN (lF σ (σ 0 0)) (k + 1) = sN (lF σ (σ 0 0)) k + lF σ (σ 0 0) k := rfl
      have el := lost_congr (d := σ 0 0) (e13 k (Nat.le_refl _)) e15 e4
      by_cases d : f_X2_isLostOn ω k (ω 0 0) = 0
      · rw [if_pos d]
        rw [hd, el] at d
        have z : lF σ (σ 0 0) k = 0 := if_neg (fun q => q d)
        obtain ⟨r1, r2, r3⟩ := ih (k + 1) a ω (fun j hj => e13 j (by omega)) e15 e4 e0 en (by omega) (by omega)
        rw [es, z, Nat.add_zero] at r1 r2
        exact ⟨r1, r2, r3⟩
      · rw [if_neg d]
        have h1 := lostOn_1 d
        rw [hd, el] at d
        have z : lF σ (σ 0 0) k = 1 := if_pos d
        have f13 : ∀ j, (shU (shU (shU ω 13 k 3) 16 3 ((ω 16 3) + (f_X2_worthOf ω k))) 17 (rOf ω k) ((ω 17 (rOf ω k)) + (f_X2_worthOf ω k))) 13 j = if j = k then 3 else ω 13 j := fun j => by
          generalize f_X2_worthOf ω k = w
          generalize rOf ω k = r
          show (shU ω 13 k 3) 13 j = _
          exact shU_at
        obtain ⟨r1, r2, r3⟩ := ih (k + 1) (a + 1) (shU (shU (shU ω 13 k 3) 16 3 ((ω 16 3) + (f_X2_worthOf ω k))) 17 (rOf ω k) ((ω 17 (rOf ω k)) + (f_X2_worthOf ω k))) (fun j hj => by rw [f13, if_neg (by omega)]; exact e13 j (by omega)) e15 e4 e0 en (by omega) (by omega)
        rw [es, z] at r1 r2
        refine ⟨?_, ?_, r3⟩
        · rw [← nI_add, ← Int32.add_assoc] at r1
          rw [add_r a] at r1
          exact i_cancel r1
        · have s := sN_set (f := fun j => if (shU (shU (shU ω 13 k 3) 16 3 ((ω 16 3) + (f_X2_worthOf ω k))) 17 (rOf ω k) ((ω 17 (rOf ω k)) + (f_X2_worthOf ω k))) 13 j = 3 then 1 else 0) (g := fun j => if ω 13 j = 3 then 1 else 0) (j := k) (fun j hj => if_iff (by rw [f13, if_neg hj])) (by
            show (if _ then 1 else 0) = (if ω 13 k = 3 then 1 else 0) + 1
            rw [if_pos (by rw [f13, if_pos rfl]), if_neg (by rw [h1]; decide)]) (n := nN σ) (by omega)
          have s' : c3 (shU (shU (shU ω 13 k 3) 16 3 ((ω 16 3) + (f_X2_worthOf ω k))) 17 (rOf ω k) ((ω 17 (rOf ω k)) + (f_X2_worthOf ω k))) (nN σ) = c3 ω (nN σ) + 1 := s
          rw [s'] at r2
          omega
theorem pass_v (h : bq σ) {x : Int32} (c1 : ¬ f_X2_isBetween x 1 400 = 0) (c2 : σ 0 0 + x ≤ 100000) : (m_X2_passDays σ x).1 = f_X2_lostAfter σ x ∧ f_X2_numberOf (m_X2_passDays σ x).2 7 = f_X2_numberOf σ 7 + f_X2_lostAfter σ x ∧ ¬ (m_X2_passDays σ x).1 < 0 := by
  have e1 : (shS σ 0 (σ 0 0 + x)) 0 0 = σ 0 0 + x := rfl
  obtain ⟨r1, r2, r3⟩ := passes_n (σ := shS σ 0 (σ 0 0 + x)) (σ0 := σ) (x := x) (nN σ + 1) 0 0 (shS σ 0 (σ 0 0 + x)) (fun _ _ => rfl) rfl rfl rfl rfl (Nat.zero_le _) (Nat.lt_succ_self _)
  have en : nN (shS σ 0 (σ 0 0 + x)) = nN σ := rfl
  have z0 : sN (lF (shS σ 0 (σ 0 0 + x)) ((shS σ 0 (σ 0 0 + x)) 0 0)) 0 = 0 := rfl
  rw [z0, nI_zero, Int32.add_zero, i_z, en] at r1
  rw [z0, Nat.add_zero, en] at r2
  rw [en] at r3
  have eL : sN (lF (shS σ 0 (σ 0 0 + x)) ((shS σ 0 (σ 0 0 + x)) 0 0)) (nN σ) = sN (fun k => if ¬ f_X2_isLostOn σ k (σ 0 0 + x) = 0 then 1 else 0) (nN σ) := sN_congr (fun k _ => if_iff (by rw [e1, lost_congr (σ := σ) (ω := shS σ 0 (σ 0 0 + x)) rfl rfl rfl]))
  have lv : f_X2_lostAfter σ x = nI (sN (fun k => if ¬ f_X2_isLostOn σ k (σ 0 0 + x) = 0 then 1 else 0) (nN σ)) := by
    unfold f_X2_lostAfter
    rw [if_neg c1, n_lost]
  have ev : m_X2_passDays σ x = ((g_X2_passDays_42 σ x (nN σ + 1) 0 0 (shS σ 0 (σ 0 0 + x))).1, (g_X2_passDays_42 σ x (nN σ + 1) 0 0 (shS σ 0 (σ 0 0 + x))).2) := by
    unfold m_X2_passDays
    rw [if_neg c1, if_pos c2]
  have b60 := sN_le1 (p := fun k => ¬ f_X2_isLostOn σ k (σ 0 0 + x) = 0) h.1
  rw [eL] at r1 r2
  rw [ev, lv]
  refine ⟨r1, ?_, ?_⟩
  · have q1 : f_X2_numberOf (g_X2_passDays_42 σ x (nN σ + 1) 0 0 (shS σ 0 (σ 0 0 + x))).2 7 = f_X2_copiesIn (g_X2_passDays_42 σ x (nN σ + 1) 0 0 (shS σ 0 (σ 0 0 + x))).2 3 := rfl
    have q2 : f_X2_numberOf σ 7 = f_X2_copiesIn σ 3 := rfl
    have q3 : c3 (shS σ 0 (σ 0 0 + x)) (nN σ) = c3 σ (nN σ) := rfl
    show f_X2_numberOf (g_X2_passDays_42 σ x (nN σ + 1) 0 0 (shS σ 0 (σ 0 0 + x))).2 7 = _
    rw [q1, q2, n_copiesIn, n_copiesIn, r3, nI_add]
    rw [q3] at r2
    exact congrArg nI r2
  · show ¬ (g_X2_passDays_42 σ x (nN σ + 1) 0 0 (shS σ 0 (σ 0 0 + x))).1 < 0
    rw [r1]
    exact nI_pos (by omega)
end PASS

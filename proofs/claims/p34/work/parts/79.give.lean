/-! ===== what is told of giving back is charged ===== -/
section GIVE
variable {σ : ST}
theorem told_v (h : okS σ) {k : Nat} (hk : k < nN σ) {y : Int32} (hg : ¬ f_X2_isGrade y = 0) (hs : σ 13 k = 1) : f_X2_chargeFor σ (nI k) y 2 = f_X2_lateCharge σ k + f_X2_damageCharge σ k y ∧ f_X2_chargeFor σ (nI k) y 0 = f_X2_lateCharge σ k ∧ f_X2_chargeFor σ (nI k) y 1 = f_X2_damageCharge σ k y := by
  refine ⟨?_, ?_, ?_⟩
  · unfold f_X2_chargeFor
    rw [if_neg (hcp h hk), if_neg hg, if_neg (show ¬ f_X2_isBetween 2 0 2 = 0 by decide), tnN h hk, if_pos hs, if_neg (show ¬ (2 : Int32) = 1 by decide), if_neg (show ¬ tn 2 = 0 by decide)]
  · unfold f_X2_chargeFor
    rw [if_neg (hcp h hk), if_neg hg, if_neg (show ¬ f_X2_isBetween 0 0 2 = 0 by decide), tnN h hk, if_pos hs, if_neg (show ¬ (0 : Int32) = 1 by decide), if_pos (show tn 0 = 0 by decide), Int32.add_zero]
  · unfold f_X2_chargeFor
    rw [if_neg (hcp h hk), if_neg hg, if_neg (show ¬ f_X2_isBetween 1 0 2 = 0 by decide), tnN h hk, if_pos hs, if_pos (show (1 : Int32) = 1 by decide), if_neg (show ¬ tn 1 = 0 by decide), i_z]
theorem told_nn (h : bq σ) {k : Nat} (hk : k < nN σ) {y : Int32} (hg : ¬ f_X2_isGrade y = 0) : 0 ≤ f_X2_lateCharge σ k + f_X2_damageCharge σ k y := b_nn (b_add (b_lateC h hk) (b_dam h hk (b_gr hg))) (by decide)
theorem told_cases (h : okS σ) (x y : Int32) : (∃ k, k < nN σ ∧ x = nI k ∧ ¬ f_X2_isGrade y = 0 ∧ σ 13 k = 1) ∨ (∃ v : Int32, v < 0 ∧ f_X2_chargeFor σ x y 2 = v ∧ m_X2_takeBack σ x y = (v, σ)) := by
  by_cases c1 : f_X2_hasCopy σ x = 0
  · refine Or.inr ⟨-2, by decide, ?_, ?_⟩
    · unfold f_X2_chargeFor; rw [if_pos c1]
    · unfold m_X2_takeBack; rw [if_pos c1]
  obtain ⟨k1, k2⟩ := hasCopy_ok h c1
  by_cases c2 : f_X2_isGrade y = 0
  · refine Or.inr ⟨-3, by decide, ?_, ?_⟩
    · unfold f_X2_chargeFor; rw [if_neg c1, if_pos c2]
    · unfold m_X2_takeBack; rw [if_neg c1, if_pos c2]
  by_cases c3 : σ 13 (tn x) = 1
  · exact Or.inl ⟨tn x, k1, k2, c2, c3⟩
  · refine Or.inr ⟨-4, by decide, ?_, ?_⟩
    · unfold f_X2_chargeFor; rw [if_neg c1, if_neg c2, if_neg (show ¬ f_X2_isBetween 2 0 2 = 0 by decide), if_neg c3]
    · unfold m_X2_takeBack; rw [if_neg c1, if_neg c2, if_neg c3]
def bkA (σ : ST) (k : Nat) (y : Int32) : ST := shU (shU (shU (shU (shU σ 13 k 0) 12 k (σ 12 k + y)) 16 2 (σ 16 2 + f_X2_damageCharge σ k y)) 16 1 (σ 16 1 + f_X2_lateCharge σ k)) 17 (rOf σ k) (σ 17 (rOf σ k) + (f_X2_lateCharge σ k + f_X2_damageCharge σ k y))
def bkB (σ : ST) (k : Nat) (y : Int32) : ST := shU (shU (shU (shU σ 13 k 3) 16 3 (σ 16 3 + f_X2_damageCharge σ k y)) 16 1 (σ 16 1 + f_X2_lateCharge σ k)) 17 (rOf σ k) (σ 17 (rOf σ k) + (f_X2_lateCharge σ k + f_X2_damageCharge σ k y))
theorem back_eq (h : okS σ) {k : Nat} (hk : k < nN σ) {y : Int32} (hg : ¬ f_X2_isGrade y = 0) (hs : σ 13 k = 1) : m_X2_takeBack σ (nI k) y = (f_X2_lateCharge σ k + f_X2_damageCharge σ k y, if σ 12 k + y ≤ 4 then bkA σ k y else bkB σ k y) := by
  unfold m_X2_takeBack
  rw [if_neg (hcp h hk), if_neg hg, tnN h hk, if_pos hs]
  by_cases c : σ 12 k + y ≤ 4
  · rw [if_pos (ruin_iff.mpr c), if_pos c]; rfl
  · rw [if_neg (fun q => c (ruin_iff.mp q)), if_neg c]; rfl
theorem bkA_f (σ : ST) (k : Nat) (y : Int32) : bkA σ k y 13 k = 0 ∧ bkA σ k y 12 k = σ 12 k + y ∧ bkA σ k y 16 1 = σ 16 1 + f_X2_lateCharge σ k ∧ bkA σ k y 16 2 = σ 16 2 + f_X2_damageCharge σ k y ∧ bkA σ k y 16 3 = σ 16 3 ∧ bkA σ k y 17 (rOf σ k) = σ 17 (rOf σ k) + (f_X2_lateCharge σ k + f_X2_damageCharge σ k y) ∧ nN (bkA σ k y) = nN σ := by
  unfold bkA
  generalize f_X2_lateCharge σ k = u
  generalize f_X2_damageCharge σ k y = v
  generalize rOf σ k = r
  refine ⟨?_, ?_, ?_, ?_, ?_, ?_, rfl⟩
  · exact shU_eq (σ := σ) (f := 13)
  · exact shU_eq (σ := shU σ 13 k 0) (f := 12)
  · exact shU_eq (σ := shU (shU (shU σ 13 k 0) 12 k (σ 12 k + y)) 16 2 (σ 16 2 + v)) (f := 16) (k := 1) (x := σ 16 1 + u)
  · exact (shU_ne (σ := shU (shU (shU σ 13 k 0) 12 k (σ 12 k + y)) 16 2 (σ 16 2 + v)) (f := 16) (k := 1) (j := 2) (x := σ 16 1 + u) (by decide)).trans (shU_eq (σ := shU (shU σ 13 k 0) 12 k (σ 12 k + y)) (f := 16))
  · exact (shU_ne (σ := shU (shU (shU σ 13 k 0) 12 k (σ 12 k + y)) 16 2 (σ 16 2 + v)) (f := 16) (k := 1) (j := 3) (x := σ 16 1 + u) (by decide)).trans (shU_ne (σ := shU (shU σ 13 k 0) 12 k (σ 12 k + y)) (f := 16) (by decide))
  · exact shU_eq (σ := shU (shU (shU (shU σ 13 k 0) 12 k (σ 12 k + y)) 16 2 (σ 16 2 + v)) 16 1 (σ 16 1 + u)) (f := 17)
theorem bkB_f (σ : ST) (k : Nat) (y : Int32) : bkB σ k y 13 k = 3 ∧ bkB σ k y 12 k = σ 12 k ∧ bkB σ k y 16 1 = σ 16 1 + f_X2_lateCharge σ k ∧ bkB σ k y 16 2 = σ 16 2 ∧ bkB σ k y 16 3 = σ 16 3 + f_X2_damageCharge σ k y ∧ bkB σ k y 17 (rOf σ k) = σ 17 (rOf σ k) + (f_X2_lateCharge σ k + f_X2_damageCharge σ k y) ∧ nN (bkB σ k y) = nN σ := by
  unfold bkB
  generalize f_X2_lateCharge σ k = u
  generalize f_X2_damageCharge σ k y = v
  generalize rOf σ k = r
  refine ⟨?_, rfl, ?_, ?_, ?_, ?_, rfl⟩
  · exact shU_eq (σ := σ) (f := 13)
  · exact shU_eq (σ := shU (shU σ 13 k 3) 16 3 (σ 16 3 + v)) (f := 16) (k := 1) (x := σ 16 1 + u)
  · exact (shU_ne (σ := shU (shU σ 13 k 3) 16 3 (σ 16 3 + v)) (f := 16) (k := 1) (j := 2) (x := σ 16 1 + u) (by decide)).trans (shU_ne (σ := shU σ 13 k 3) (f := 16) (by decide))
  · exact (shU_ne (σ := shU (shU σ 13 k 3) 16 3 (σ 16 3 + v)) (f := 16) (k := 1) (j := 3) (x := σ 16 1 + u) (by decide)).trans (shU_eq (σ := shU σ 13 k 3) (f := 16))
  · exact shU_eq (σ := shU (shU (shU σ 13 k 3) 16 3 (σ 16 3 + v)) 16 1 (σ 16 1 + u)) (f := 17)
theorem giving (h : INV σ) (x y : Int32) : F_isGivingTold σ x y := by
  have hok := iv_ok h
  have hq := iv_q h
  have hs8 := sound (inv_giveBack h x y)
  rcases told_cases hok x y with ⟨k, hk, rfl, hg, hs⟩ | ⟨v, hv, e1, e2⟩
  · obtain ⟨t2, t0, t1⟩ := told_v hok hk hg hs
    have nn := told_nn hq hk hg
    have eb := back_eq hok hk hg hs
    have ok2 := takeBack_ok hok (nI k) y
    obtain ⟨r1, r2⟩ := okS_r hok hk hs
    have no : ¬ ¬ 0 ≤ f_X2_chargeFor σ (nI k) y 2 := fun q => q (by rw [t2]; exact nn)
    have ecu : f_X2_copyProperty σ (nI k) 4 = nI (rOf σ k) := by rw [cp4 hok hk, if_pos hs, r1]
    have e12 : f_X2_copyProperty σ (nI k) 2 = σ 12 k := cp2 hok hk
    rw [eb] at ok2 hs8
    have fin : ∀ τ : ST, okS τ → nN τ = nN σ → τ 16 1 = σ 16 1 + f_X2_lateCharge σ k → τ 16 2 + τ 16 3 = (σ 16 2 + σ 16 3) + f_X2_damageCharge σ k y → τ 17 (rOf σ k) = σ 17 (rOf σ k) + (f_X2_lateCharge σ k + f_X2_damageCharge σ k y) → τ 13 k = (if σ 12 k + y ≤ 4 then 0 else 3) → τ 12 k = (if σ 12 k + y ≤ 4 then σ 12 k + y else σ 12 k) → F_isSound τ → m_X2_takeBack σ (nI k) y = (f_X2_lateCharge σ k + f_X2_damageCharge σ k y, τ) → F_isGivingTold σ (nI k) y := by
      intro τ okt en e1 e23 e17 e13 e12t hso et
      unfold F_isGivingTold
      rw [et, t2, t0, t1, ecu, e12]
      refine ⟨fun _ => rfl, fun _ => rfl, fun _ => ?_, fun _ => ?_, fun _ => ?_, fun _ => ?_, fun _ => ?_, fun _ => hso, fun _ => Int32.not_lt.mpr nn, fun q => absurd nn q, fun q => absurd nn q, fun q => absurd nn q⟩
      · rw [up2 r2, up2 r2]; exact e17
      · exact e1
      · exact e23
      · exact (cp3 okt (en ▸ hk)).trans e13
      · exact (cp2 okt (en ▸ hk)).trans e12t
    by_cases c : σ 12 k + y ≤ 4
    · rw [if_pos c] at eb ok2 hs8
      obtain ⟨f1, f2, f3, f4, f5, f6, f7⟩ := bkA_f σ k y
      exact fin (bkA σ k y) ok2 f7 f3 (by rw [f4, f5, add_r]) f6 (by rw [if_pos c]; exact f1) (by rw [if_pos c]; exact f2) hs8 eb
    · rw [if_neg c] at eb ok2 hs8
      obtain ⟨f1, f2, f3, f4, f5, f6, f7⟩ := bkB_f σ k y
      exact fin (bkB σ k y) ok2 f7 f3 (by rw [f4, f5, Int32.add_assoc]) f6 (by rw [if_neg c]; exact f1) (by rw [if_neg c]; exact f2) hs8 eb
  · have no : ¬ 0 ≤ v := Int32.not_le.mpr hv
    unfold F_isGivingTold
    rw [e1, e2]
    exact ⟨fun q => absurd q no, fun q => absurd q no, fun q => absurd q no, fun q => absurd q no, fun q => absurd q no, fun q => absurd q no, fun q => absurd q no, fun q => absurd q no, fun q => absurd q no, fun _ => rfl, fun _ => lg_self _, fun _ => rfl⟩
end GIVE

/-! ===== what every rental keeps ===== -/
def cR (σ : ST) (x : Nat) : Nat := sN (fun k => if ¬ f_X2_isRentedBy σ k (nI x) = 0 then 1 else 0) (nN σ)
def INV (σ : ST) : Prop := bq σ ∧ (∀ t, t < nT σ → 1 ≤ (σ 6 t).toInt) ∧ (∀ k, k < nN σ → tOf σ k < nT σ) ∧ (∀ x, x < 8 → cR σ x ≤ 4) ∧ sI (fun x => σ 17 x) 8 = ((σ 16 0 + σ 16 1) + σ 16 2) + σ 16 3
section INV
variable {σ : ST}
theorem iv_q (h : INV σ) : bq σ := h.1
theorem iv_ok (h : INV σ) : okS σ := h.1.1
theorem iv_6 (h : INV σ) {t : Nat} (ht : t < nT σ) : 1 ≤ (σ 6 t).toInt := h.2.1 t ht
theorem iv_t (h : INV σ) {k : Nat} (hk : k < nN σ) : tOf σ k < nT σ := h.2.2.1 k hk
theorem iv_r (h : INV σ) {x : Nat} (hx : x < 8) : cR σ x ≤ 4 := h.2.2.2.1 x hx
theorem iv_s (h : INV σ) : sI (fun x => σ 17 x) 8 = ((σ 16 0 + σ 16 1) + σ 16 2) + σ 16 3 := h.2.2.2.2
theorem hcp (h : okS σ) {k : Nat} (hk : k < nN σ) : ¬ f_X2_hasCopy σ (nI k) = 0 := fun q => hasCopy_no h q ⟨k, hk, rfl⟩
theorem htt (h : okS σ) {k : Nat} (hk : k < nT σ) : ¬ f_X2_hasTitle σ (nI k) = 0 := fun q => hasTitle_no h q ⟨k, hk, rfl⟩
theorem hcc (h : okS σ) {k : Nat} (hk : k < nC σ) : ¬ f_X2_hasCourse σ (nI k) = 0 := fun q => hasCourse_no h q ⟨k, hk, rfl⟩
theorem tnN (h : okS σ) {k : Nat} (hk : k < nN σ) : tn (nI k) = k := tn_nI (by have := (okS_b h).2.2; omega)
theorem tnT (h : okS σ) {k : Nat} (hk : k < nT σ) : tn (nI k) = k := tn_nI (by have := (okS_b h).1; omega)
theorem tnC (h : okS σ) {k : Nat} (hk : k < nC σ) : tn (nI k) = k := tn_nI (by have := (okS_b h).2.1; omega)
theorem cp0 (h : okS σ) {k : Nat} (hk : k < nN σ) : f_X2_copyProperty σ (nI k) 0 = σ 10 k := by
  unfold f_X2_copyProperty
  rw [if_neg (hcp h hk), tnN h hk]
  by_cases c : σ 13 k = 1
  · rw [if_pos c]; rfl
  · rw [if_neg c]; rfl
theorem cp1 (h : okS σ) {k : Nat} (hk : k < nN σ) : f_X2_copyProperty σ (nI k) 1 = σ 11 k := by
  unfold f_X2_copyProperty
  rw [if_neg (hcp h hk), tnN h hk]
  by_cases c : σ 13 k = 1
  · rw [if_pos c]; rfl
  · rw [if_neg c]; rfl
theorem cp2 (h : okS σ) {k : Nat} (hk : k < nN σ) : f_X2_copyProperty σ (nI k) 2 = σ 12 k := by
  unfold f_X2_copyProperty
  rw [if_neg (hcp h hk), tnN h hk]
  by_cases c : σ 13 k = 1
  · rw [if_pos c]; rfl
  · rw [if_neg c]; rfl
theorem cp3 (h : okS σ) {k : Nat} (hk : k < nN σ) : f_X2_copyProperty σ (nI k) 3 = σ 13 k := by
  unfold f_X2_copyProperty
  rw [if_neg (hcp h hk), tnN h hk]
  by_cases c : σ 13 k = 1
  · rw [if_pos c]; rfl
  · rw [if_neg c]; rfl
theorem cp4 (h : okS σ) {k : Nat} (hk : k < nN σ) : f_X2_copyProperty σ (nI k) 4 = if σ 13 k = 1 then σ 14 k else -1 := by
  unfold f_X2_copyProperty
  rw [if_neg (hcp h hk), tnN h hk]
  by_cases c : σ 13 k = 1
  · rw [if_pos c, if_pos c]; rfl
  · rw [if_neg c, if_neg c]; rfl
theorem cp5 (h : okS σ) {k : Nat} (hk : k < nN σ) : f_X2_copyProperty σ (nI k) 5 = if σ 13 k = 1 then σ 15 k else -1 := by
  unfold f_X2_copyProperty
  rw [if_neg (hcp h hk), tnN h hk]
  by_cases c : σ 13 k = 1
  · rw [if_pos c, if_pos c]; rfl
  · rw [if_neg c, if_neg c]; rfl
theorem cp6 (h : okS σ) {k : Nat} (hk : k < nN σ) : f_X2_copyProperty σ (nI k) 6 = f_X2_worthOf σ k := by
  unfold f_X2_copyProperty
  rw [if_neg (hcp h hk), tnN h hk]
  by_cases c : σ 13 k = 1
  · rw [if_pos c]; rfl
  · rw [if_neg c]; rfl
theorem cp7 (h : okS σ) {k : Nat} (hk : k < nN σ) : f_X2_copyProperty σ (nI k) 7 = f_X2_rentCost σ k := by
  unfold f_X2_copyProperty
  rw [if_neg (hcp h hk), tnN h hk]
  by_cases c : σ 13 k = 1
  · rw [if_pos c]; rfl
  · rw [if_neg c]; rfl
theorem cp8 (h : okS σ) {k : Nat} (hk : k < nN σ) : f_X2_copyProperty σ (nI k) 8 = f_X2_saleCost σ k := by
  unfold f_X2_copyProperty
  rw [if_neg (hcp h hk), tnN h hk]
  by_cases c : σ 13 k = 1
  · rw [if_pos c]; rfl
  · rw [if_neg c]; rfl
theorem cp9 (h : okS σ) {k : Nat} (hk : k < nN σ) : f_X2_copyProperty σ (nI k) 9 = if f_X2_isOfUse σ (σ 10 k) (σ 11 k) = 0 then 0 else 1 := by
  unfold f_X2_copyProperty
  rw [if_neg (hcp h hk), tnN h hk]
  by_cases c : σ 13 k = 1
  · rw [if_pos c]; rfl
  · rw [if_neg c]; rfl
theorem cp10 (h : okS σ) {k : Nat} (hk : k < nN σ) : f_X2_copyProperty σ (nI k) 10 = if σ 13 k = 1 then f_X2_daysLate σ k else 0 := by
  unfold f_X2_copyProperty
  rw [if_neg (hcp h hk), tnN h hk]
  by_cases c : σ 13 k = 1
  · rw [if_pos c, if_pos c]; rfl
  · rw [if_neg c, if_neg c]; rfl
theorem tp0 (h : okS σ) {k : Nat} (hk : k < nT σ) : f_X2_titleProperty σ (nI k) 0 = σ 5 k := by
  unfold f_X2_titleProperty
  rw [if_neg (htt h hk), tnT h hk]; rfl
theorem tp2 (h : okS σ) {k : Nat} (hk : k < nT σ) : f_X2_titleProperty σ (nI k) 2 = f_X2_demandOf σ (nI k) := by
  unfold f_X2_titleProperty
  rw [if_neg (htt h hk)]; rfl
theorem tp3 (h : okS σ) {k : Nat} (hk : k < nT σ) : f_X2_titleProperty σ (nI k) 3 = f_X2_supplyOf σ (nI k) := by
  unfold f_X2_titleProperty
  rw [if_neg (htt h hk)]; rfl
theorem tp4 (h : okS σ) {k : Nat} (hk : k < nT σ) : f_X2_titleProperty σ (nI k) 4 = if 0 < (f_X2_demandOf σ (nI k) - f_X2_supplyOf σ (nI k)) then (f_X2_demandOf σ (nI k) - f_X2_supplyOf σ (nI k)) else 0 := by
  unfold f_X2_titleProperty
  rw [if_neg (htt h hk)]; rfl
theorem tp5 (h : okS σ) {k : Nat} (hk : k < nT σ) : f_X2_titleProperty σ (nI k) 5 = f_X2_copiesOf σ (nI k) := by
  unfold f_X2_titleProperty
  rw [if_neg (htt h hk)]; rfl
theorem tp6 (h : okS σ) {k : Nat} (hk : k < nT σ) : f_X2_titleProperty σ (nI k) 6 = f_X2_copiesOfIn σ (nI k) 0 := by
  unfold f_X2_titleProperty
  rw [if_neg (htt h hk)]; rfl
theorem op0 (h : okS σ) {k : Nat} (hk : k < nC σ) : f_X2_courseProperty σ (nI k) 0 = σ 7 k := by
  unfold f_X2_courseProperty
  rw [if_neg (hcc h hk), tnC h hk]; rfl
theorem op1 (h : okS σ) {k : Nat} (hk : k < nC σ) : f_X2_courseProperty σ (nI k) 1 = σ 8 k := by
  unfold f_X2_courseProperty
  rw [if_neg (hcc h hk), tnC h hk]; rfl
theorem op2 (h : okS σ) {k : Nat} (hk : k < nC σ) : f_X2_courseProperty σ (nI k) 2 = σ 9 k := by
  unfold f_X2_courseProperty
  rw [if_neg (hcc h hk), tnC h hk]; rfl
theorem op3 (h : okS σ) {k : Nat} (hk : k < nC σ) : f_X2_courseProperty σ (nI k) 3 = f_X2_stockFor σ k := by
  unfold f_X2_courseProperty
  rw [if_neg (hcc h hk), tnC h hk]; rfl
theorem np (h : okS σ) {k : Nat} (hk : k < nC σ) : f_X2_nextCopy σ (nI k) = f_X2_bestFor σ k := by
  unfold f_X2_nextCopy
  rw [if_neg (hcc h hk), tnC h hk]
theorem hcu {x : Nat} (hx : x < 8) : ¬ f_X2_hasCustomer (nI x) = 0 := by
  rcases (show x = 0 ∨ x = 1 ∨ x = 2 ∨ x = 3 ∨ x = 4 ∨ x = 5 ∨ x = 6 ∨ x = 7 by omega) with rfl | rfl | rfl | rfl | rfl | rfl | rfl | rfl <;> decide
theorem up0 {x : Nat} (hx : x < 8) : f_X2_customerNumber σ (nI x) 0 = f_X2_rentedBy σ (nI x) := by
  unfold f_X2_customerNumber
  rw [if_neg (hcu hx)]; rfl
theorem up1 {x : Nat} (hx : x < 8) : f_X2_customerNumber σ (nI x) 1 = f_X2_lateBy σ (nI x) := by
  unfold f_X2_customerNumber
  rw [if_neg (hcu hx)]; rfl
theorem up2 {x : Nat} (hx : x < 8) : f_X2_customerNumber σ (nI x) 2 = σ 17 x := by
  unfold f_X2_customerNumber
  rw [if_neg (hcu hx), tn_nI (by omega)]; rfl
theorem bp {x : Nat} (hx : x < 7) : f_X2_sumOf σ (nI x) = σ 16 x := by
  rcases (show x = 0 ∨ x = 1 ∨ x = 2 ∨ x = 3 ∨ x = 4 ∨ x = 5 ∨ x = 6 by omega) with rfl | rfl | rfl | rfl | rfl | rfl | rfl <;> rfl
theorem bp7 : f_X2_sumOf σ 7 = ((100000000 + ((((σ 16 0 + σ 16 1) + σ 16 2) + σ 16 3) + σ 16 4)) - σ 16 5) - σ 16 6 := rfl
theorem st5 (h : bq σ) {k : Nat} (hk : k < nN σ) : σ 13 k = nI (stt σ k) ∧ stt σ k < 5 := by
  have b := rl_b13 h (rl_60 h hk)
  have e : σ 13 k = nI (tn (σ 13 k)) := tn_pos (b_nn b (by decide))
  refine ⟨e, ?_⟩
  have hb := b.2
  have h2 : tn (σ 13 k) < 2 ^ 31 := by
    obtain ⟨j, hj, q⟩ := nI_of (x := σ 13 k) (fun q => Int32.not_le.mpr q (b_nn b (by decide)))
    rw [q, tn_nI hj]; exact hj
  rw [e, nI_toInt h2] at hb
  show tn (σ 13 k) < 5
  omega
/-! what is worth what -/
theorem wq_le {P c g : Int} (hP : 0 ≤ P) (h0 : 0 ≤ c) (hg : 0 ≤ g) (hg4 : g ≤ 4) : wq P c g ≤ P := by
  have e1 : P * (100 - 20 * g) ≤ P * 100 := Int.mul_le_mul_of_nonneg_left (by omega) hP
  have e2 : 0 ≤ P * (100 - 20 * g) := Int.mul_nonneg hP (by omega)
  have e3 : 0 ≤ P * (100 - 20 * g) / 100 * c := Int.mul_nonneg (Int.ediv_nonneg e2 (by decide)) h0
  have e4 : 0 ≤ P * (100 - 20 * g) / 100 * c / 100 := Int.ediv_nonneg e3 (by decide)
  unfold wq
  omega
theorem wq_cut {P c c' g : Int} (hP : 0 ≤ P) (hg4 : g ≤ 4) (hc : c ≤ c') : wq P c' g ≤ wq P c g := by
  have e2 : 0 ≤ P * (100 - 20 * g) := Int.mul_nonneg hP (by omega)
  have e3 : P * (100 - 20 * g) / 100 * c ≤ P * (100 - 20 * g) / 100 * c' := Int.mul_le_mul_of_nonneg_left hc (Int.ediv_nonneg e2 (by decide))
  unfold wq
  omega
theorem cut_v (h : bq σ) {c y : Int32} (hc : bnd c 0 31) (hy : bnd y 0 30) : (cutOf σ c y).toInt = (if (σ 4 3).toInt * (if 0 < c.toInt - y.toInt then c.toInt - y.toInt else 0) < 100 then (σ 4 3).toInt * (if 0 < c.toInt - y.toInt then c.toInt - y.toInt else 0) else 100) := by
  have b1 := b_max (m := 31) (by decide) (bnd_w (b_subB hc hy) (by decide : (-30 : Int) ≤ _) (by decide))
  have b2 := b_mul (rl_b43 h) b1 (by decide)
  have e0 : (0 : Int32).toInt = 0 := by decide
  have e100 : (100 : Int32).toInt = 100 := by decide
  have em : (if 0 < c - y then c - y else 0).toInt = if 0 < c.toInt - y.toInt then c.toInt - y.toInt else 0 := by
    have s := b_sub hc hy
    by_cases q : 0 < c - y
    · rw [if_pos q]
      rw [Int32.lt_iff_toInt_lt, e0, s] at q
      rw [if_pos q, s]
    · rw [if_neg q]
      rw [Int32.lt_iff_toInt_lt, e0, s] at q
      rw [if_neg q, e0]
  unfold cutOf
  rw [← em, ← b2.1]
  by_cases q : (σ 4 3) * (if 0 < (c - y) then (c - y) else 0) < 100
  · rw [if_pos q]
    rw [Int32.lt_iff_toInt_lt, e100] at q
    rw [if_pos q]
  · rw [if_neg q]
    rw [Int32.lt_iff_toInt_lt, e100] at q
    rw [if_neg q, e100]
theorem cut_mono (h : bq σ) {c c' y y' : Int32} (hc : bnd c 0 31) (hc' : bnd c' 0 31) (hy : bnd y 0 30) (hy' : bnd y' 0 30) (hcc : c.toInt ≤ c'.toInt) (hyy : y'.toInt ≤ y.toInt) : (cutOf σ c y).toInt ≤ (cutOf σ c' y').toInt := by
  rw [cut_v h hc hy, cut_v h hc' hy']
  have s0 := (rl_b43 h).1
  have m : (σ 4 3).toInt * (if 0 < c.toInt - y.toInt then c.toInt - y.toInt else 0) ≤ (σ 4 3).toInt * (if 0 < c'.toInt - y'.toInt then c'.toInt - y'.toInt else 0) := by
    refine Int.mul_le_mul_of_nonneg_left ?_ s0
    by_cases q : 0 < c.toInt - y.toInt
    · rw [if_pos q, if_pos (by omega)]; omega
    · rw [if_neg q]
      by_cases r : 0 < c'.toInt - y'.toInt
      · rw [if_pos r]; omega
      · rw [if_neg r]; omega
  generalize (σ 4 3).toInt * (if 0 < c.toInt - y.toInt then c.toInt - y.toInt else 0) = A at m ⊢
  generalize (σ 4 3).toInt * (if 0 < c'.toInt - y'.toInt then c'.toInt - y'.toInt else 0) = B at m ⊢
  by_cases q : A < 100
  · rw [if_pos q]
    by_cases r : B < 100
    · rw [if_pos r]; exact m
    · rw [if_neg r]; omega
  · rw [if_neg q, if_neg (by omega)]; omega
/-- worth falls with grades, with the edition's age and with each next edition -/
theorem worth_mono (h : bq σ) {t : Nat} {c c' y y' z z' : Int32} (hc : bnd c 0 31) (hc' : bnd c' 0 31) (hy : bnd y 0 30) (hy' : bnd y' 0 30) (hz : bnd z 0 4) (hz' : bnd z' 0 4) (hcc : c'.toInt ≤ c.toInt) (hyy : y.toInt ≤ y'.toInt) (hzz : z'.toInt ≤ z.toInt) : (f_X2_worthBy σ t c y z).toInt ≤ (f_X2_worthBy σ t c' y' z').toInt := by
  rw [(e_wq h hc hy hz).1, (e_wq h hc' hy' hz').1]
  have P0 := (rl_b5 h t).1
  have k1 := b_cut h hc hy
  have k2 := b_cut h hc' hy'
  exact Int.le_trans (wq_cut P0 hz.2 (cut_mono h hc' hc hy' hy hcc hyy)) (wq_mono P0 k2.1 k2.2 hzz)
theorem worth_le (h : bq σ) {t : Nat} {c y z : Int32} (hc : bnd c 0 31) (hy : bnd y 0 30) (hz : bnd z 0 4) : (f_X2_worthBy σ t c y z).toInt ≤ (σ 5 t).toInt := by
  rw [(e_wq h hc hy hz).1]
  have k1 := b_cut h hc hy
  exact wq_le (rl_b5 h t).1 k1.1 hz.1 hz.2
theorem b_cur (h : bq σ) {k : Nat} (hk : k < nN σ) : bnd (σ 6 (tOf σ k)) 0 31 := bnd_w (rl_b6 h (tOf_6 h hk)) (by decide) (by decide)
end INV

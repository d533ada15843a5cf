/-! ===== sums ===== -/
theorem i_cancel {x y f : Int32} (h : x + f = y + f) : x = y := by
  have h2 : x + f + -f = y + f + -f := by rw [h]
  rw [Int32.add_assoc, Int32.add_assoc, Int32.add_right_neg, Int32.add_zero, Int32.add_zero] at h2
  exact h2
theorem i_4 (a b c d : Int32) : (a + b) + (c + d) = (a + c) + (b + d) := by
  rw [← Int32.add_assoc, add_r a b c, Int32.add_assoc]
theorem i_z (a : Int32) : 0 + a = a := by rw [Int32.add_comm, Int32.add_zero]
theorem nI_one : nI 1 = 1 := rfl
theorem nI_zero : nI 0 = 0 := rfl
def sI (f : Nat → Int32) : Nat → Int32
  | 0 => 0
  | n + 1 => sI f n + f n
def sN (f : Nat → Nat) : Nat → Nat
  | 0 => 0
  | n + 1 => sN f n + f n
theorem sI_congr {f g : Nat → Int32} : ∀ {n : Nat}, (∀ k, k < n → f k = g k) → sI f n = sI g n
  | 0, _ => rfl
  | n + 1, h => by
    show sI f n + f n = sI g n + g n
    rw [sI_congr (fun k hk => h k (by omega)), h n (by omega)]
theorem sN_congr {f g : Nat → Nat} : ∀ {n : Nat}, (∀ k, k < n → f k = g k) → sN f n = sN g n
  | 0, _ => rfl
  | n + 1, h => by
    show sN f n + f n = sN g n + g n
    rw [sN_congr (fun k hk => h k (by omega)), h n (by omega)]
theorem sN_le {f g : Nat → Nat} : ∀ {n : Nat}, (∀ k, k < n → f k ≤ g k) → sN f n ≤ sN g n
  | 0, _ => Nat.le_refl _
  | n + 1, h => Nat.add_le_add (sN_le (fun k hk => h k (by omega))) (h n (by omega))
theorem sN_mem {f : Nat → Nat} {k : Nat} : ∀ {n : Nat}, k < n → f k ≤ sN f n
  | 0, h => absurd h (Nat.not_lt_zero _)
  | n + 1, h => by
    show f k ≤ sN f n + f n
    by_cases c : k = n
    · subst c; omega
    · have := sN_mem (f := f) (k := k) (n := n) (by omega); omega
theorem sN_b {f : Nat → Nat} (b : Nat) : ∀ {n : Nat}, (∀ k, k < n → f k ≤ b) → sN f n ≤ b * n
  | 0, _ => Nat.zero_le _
  | n + 1, h => by
    have h1 := sN_b (f := f) b (n := n) (fun k hk => h k (by omega))
    have h2 := h n (by omega)
    show sN f n + f n ≤ b * (n + 1)
    rw [Nat.mul_add, Nat.mul_one]
    omega
theorem sN_add {f g : Nat → Nat} : ∀ {n : Nat}, sN (fun k => f k + g k) n = sN f n + sN g n
  | 0 => rfl
  | n + 1 => by
    show sN (fun k => f k + g k) n + (f n + g n) = (sN f n + f n) + (sN g n + g n)
    rw [sN_add]; omega
theorem sN_zero : ∀ {n : Nat}, sN (fun _ => 0) n = 0
  | 0 => rfl
  | n + 1 => sN_zero (n := n)
theorem sN_comm {f : Nat → Nat → Nat} {n : Nat} : ∀ {m : Nat}, sN (fun t => sN (fun k => f t k) n) m = sN (fun k => sN (fun t => f t k) m) n
  | 0 => by
    show 0 = sN (fun _ => 0) n
    rw [sN_zero]
  | m + 1 => by
    show sN (fun t => sN (fun k => f t k) n) m + sN (fun k => f m k) n = sN (fun k => sN (fun t => f t k) m + f m k) n
    rw [sN_comm, sN_add]
theorem sN_one : ∀ {n : Nat}, sN (fun _ => 1) n = n
  | 0 => rfl
  | n + 1 => by show sN (fun _ => 1) n + 1 = n + 1; rw [sN_one]
theorem sN_at {p : Nat} : ∀ {n : Nat}, sN (fun t => if p = t then 1 else 0) n = if p < n then 1 else 0
  | 0 => rfl
  | n + 1 => by
    show sN (fun t => if p = t then 1 else 0) n + (if p = n then 1 else 0) = _
    rw [sN_at]
    by_cases c : p = n
    · rw [if_pos c, if_neg (by omega), if_pos (by omega)]
    · by_cases d : p < n
      · rw [if_neg c, if_pos d, if_pos (by omega)]
      · rw [if_neg c, if_neg d, if_neg (by omega)]
theorem sI_nI {f : Nat → Nat} : ∀ {n : Nat}, sI (fun k => nI (f k)) n = nI (sN f n)
  | 0 => rfl
  | n + 1 => by
    show sI (fun k => nI (f k)) n + nI (f n) = nI (sN f n + f n)
    rw [sI_nI, nI_add]
theorem sI_add {f g : Nat → Int32} : ∀ {n : Nat}, sI (fun k => f k + g k) n = sI f n + sI g n
  | 0 => rfl
  | n + 1 => by
    show sI (fun k => f k + g k) n + (f n + g n) = (sI f n + f n) + (sI g n + g n)
    rw [sI_add, i_4]
/-- a loop that adds -/
theorem lpz_s {G : Nat → Nat → Int32 → Int32} {n : Nat} {f : Nat → Int32} (h0 : ∀ fu k a, G (fu + 1) k a = if n ≤ k then a else G fu (k + 1) (a + f k)) : ∀ (fu k : Nat) (a : Int32), k ≤ n → n - k < fu → G fu k a + sI f k = a + sI f n := by
  intro fu
  induction fu with
  | zero => intro k a _ h; exact absurd h (Nat.not_lt_zero _)
  | succ fu ih =>
    intro k a hk hm
    rw [h0]
    by_cases c : n ≤ k
    · rw [if_pos c, show k = n by omega]
    · rw [if_neg c]
      have h := ih (k + 1) (a + f k) (by omega) (by omega)
      have e : sI f (k + 1) = sI f k + f k := rfl
      rw [e, ← Int32.add_assoc, add_r a] at h
      exact i_cancel h
theorem lpz_0 {G : Nat → Nat → Int32 → Int32} {n : Nat} {f : Nat → Int32} (h0 : ∀ fu k a, G (fu + 1) k a = if n ≤ k then a else G fu (k + 1) (a + f k)) : G (n + 1) 0 0 = sI f n := by
  have h := lpz_s h0 (n + 1) 0 0 (by omega) (by omega)
  have e : sI f 0 = 0 := rfl
  rw [e, Int32.add_zero, i_z] at h
  exact h
/-- a loop that counts -/
theorem lpz_n {G : Nat → Nat → Int32 → Int32} {n : Nat} {f : Nat → Nat} (h0 : ∀ fu k a, G (fu + 1) k a = if n ≤ k then a else G fu (k + 1) (a + nI (f k))) : G (n + 1) 0 0 = nI (sN f n) := (lpz_0 h0).trans sI_nI
section SUMS
variable {σ : ST}
theorem n_copiesIn (x : Int32) : f_X2_copiesIn σ x = nI (sN (fun k => if σ 13 k = x then 1 else 0) (nN σ)) :=
  lpz_n (G := g_X2_copiesIn_4 σ x) (f := fun k => if σ 13 k = x then 1 else 0) (fun fu k a => by
    rw [g_X2_copiesIn_4]
    by_cases c0 : σ 13 k = x <;> simp [c0, nI_one, nI_zero])
theorem n_copiesOf (x : Int32) : f_X2_copiesOf σ x = nI (sN (fun k => if σ 10 k = x then 1 else 0) (nN σ)) :=
  lpz_n (G := g_X2_copiesOf_4 σ x) (f := fun k => if σ 10 k = x then 1 else 0) (fun fu k a => by
    rw [g_X2_copiesOf_4]
    by_cases c0 : σ 10 k = x <;> simp [c0, nI_one, nI_zero])
theorem n_copiesOfIn (x : Int32) (y : Int32) : f_X2_copiesOfIn σ x y = nI (sN (fun k => if σ 10 k = x ∧ σ 13 k = y then 1 else 0) (nN σ)) :=
  lpz_n (G := g_X2_copiesOfIn_5 σ x y) (f := fun k => if σ 10 k = x ∧ σ 13 k = y then 1 else 0) (fun fu k a => by
    rw [g_X2_copiesOfIn_5]
    by_cases c0 : σ 10 k = x <;> by_cases c1 : σ 13 k = y <;> simp [c0, c1, nI_one, nI_zero])
theorem n_stockFor (jc : Nat) : f_X2_stockFor σ jc = nI (sN (fun k => if σ 13 k = 0 ∧ ¬ f_X2_suits σ k jc = 0 then 1 else 0) (nN σ)) :=
  lpz_n (G := g_X2_stockFor_4 σ jc) (f := fun k => if σ 13 k = 0 ∧ ¬ f_X2_suits σ k jc = 0 then 1 else 0) (fun fu k a => by
    rw [g_X2_stockFor_4]
    by_cases c0 : σ 13 k = 0 <;> by_cases c1 : f_X2_suits σ k jc = 0 <;> simp [c0, c1, nI_one, nI_zero])
theorem n_supplyOf (x : Int32) : f_X2_supplyOf σ x = nI (sN (fun k => if (σ 13 k = 0 ∨ σ 13 k = 1) ∧ σ 10 k = x ∧ ¬ f_X2_isOfUse σ x (σ 11 k) = 0 then 1 else 0) (nN σ)) :=
  lpz_n (G := g_X2_supplyOf_4 σ x) (f := fun k => if (σ 13 k = 0 ∨ σ 13 k = 1) ∧ σ 10 k = x ∧ ¬ f_X2_isOfUse σ x (σ 11 k) = 0 then 1 else 0) (fun fu k a => by
    rw [g_X2_supplyOf_4]
    by_cases c0 : σ 13 k = 0 <;> by_cases c1 : σ 13 k = 1 <;> by_cases c2 : σ 10 k = x <;> by_cases c3 : f_X2_isOfUse σ x (σ 11 k) = 0 <;> simp [c0, c1, c2, c3, nI_one, nI_zero])
theorem n_rentedBy (x : Int32) : f_X2_rentedBy σ x = nI (sN (fun k => if ¬ f_X2_isRentedBy σ k x = 0 then 1 else 0) (nN σ)) :=
  lpz_n (G := g_X2_rentedBy_4 σ x) (f := fun k => if ¬ f_X2_isRentedBy σ k x = 0 then 1 else 0) (fun fu k a => by
    rw [g_X2_rentedBy_4]
    by_cases c0 : f_X2_isRentedBy σ k x = 0 <;> simp [c0, nI_one, nI_zero])
theorem n_lateBy (x : Int32) : f_X2_lateBy σ x = nI (sN (fun k => if ¬ f_X2_isRentedBy σ k x = 0 ∧ ¬ f_X2_daysLate σ k ≤ 0 then 1 else 0) (nN σ)) :=
  lpz_n (G := g_X2_lateBy_4 σ x) (f := fun k => if ¬ f_X2_isRentedBy σ k x = 0 ∧ ¬ f_X2_daysLate σ k ≤ 0 then 1 else 0) (fun fu k a => by
    rw [g_X2_lateBy_4]
    by_cases c0 : f_X2_isRentedBy σ k x = 0 <;> by_cases c1 : f_X2_daysLate σ k ≤ 0 <;> simp [c0, c1, nI_one, nI_zero])
theorem n_stockOfEdition (x : Int32) (y : Int32) : f_X2_stockOfEdition σ x y = nI (sN (fun k => if σ 10 k = x ∧ σ 11 k = y ∧ σ 13 k = 0 then 1 else 0) (nN σ)) :=
  lpz_n (G := g_X2_stockOfEdition_5 σ x y) (f := fun k => if σ 10 k = x ∧ σ 11 k = y ∧ σ 13 k = 0 then 1 else 0) (fun fu k a => by
    rw [g_X2_stockOfEdition_5]
    by_cases c0 : σ 10 k = x <;> by_cases c1 : σ 11 k = y <;> by_cases c2 : σ 13 k = 0 <;> simp [c0, c1, c2, nI_one, nI_zero])
theorem n_lost (x : Int32) : g_X2_lostAfter_18 σ x (nN σ + 1) 0 0 = nI (sN (fun k => if ¬ f_X2_isLostOn σ k (σ 0 0 + x) = 0 then 1 else 0) (nN σ)) :=
  lpz_n (G := g_X2_lostAfter_18 σ x) (f := fun k => if ¬ f_X2_isLostOn σ k (σ 0 0 + x) = 0 then 1 else 0) (fun fu k a => by
    rw [g_X2_lostAfter_18]
    by_cases c0 : f_X2_isLostOn σ k (σ 0 0 + x) = 0 <;> simp [c0, nI_one, nI_zero])
theorem s_demandOf (x : Int32) : f_X2_demandOf σ x = sI (fun k => if σ 7 k = x then σ 9 k else 0) (nC σ) :=
  lpz_0 (G := g_X2_demandOf_4 σ x) (f := fun k => if σ 7 k = x then σ 9 k else 0) (fun fu k a => by
    rw [g_X2_demandOf_4]
    by_cases c0 : σ 7 k = x <;> simp [c0])
theorem s_served : f_X2_servedStudents σ = sI (fun k => f_X2_servedWith σ (nI k)) (nT σ) :=
  lpz_0 (G := g_X2_servedStudents_4 σ) (f := fun k => f_X2_servedWith σ (nI k)) (fun fu k a => by
    rw [g_X2_servedStudents_4])
theorem s_all : g_L_isSound_450 σ (nT σ + 1) 0 0 = sI (fun k => f_X2_titleProperty σ (nI k) 5) (nT σ) :=
  lpz_0 (G := g_L_isSound_450 σ) (f := fun k => f_X2_titleProperty σ (nI k) 5) (fun fu k a => by
    rw [g_L_isSound_450])
theorem s_charged : g_L_isSound_385 σ 9 0 0 = sI (fun k => f_X2_customerNumber σ (nI k) 2) (8) :=
  lpz_0 (G := g_L_isSound_385 σ) (f := fun k => f_X2_customerNumber σ (nI k) 2) (fun fu k a => by
    rw [g_L_isSound_385])
theorem s_got : g_L_isSound_698 σ 6 0 0 = sI (fun k => f_X2_sumOf σ (nI k)) (5) :=
  lpz_0 (G := g_L_isSound_698 σ) (f := fun k => f_X2_sumOf σ (nI k)) (fun fu k a => by
    rw [g_L_isSound_698])
theorem s_dem (ti : Nat) : g_L_isSound_466 σ ti (nC σ + 1) 0 0 = sI (fun k => if f_X2_courseProperty σ (nI k) 0 = nI ti then f_X2_courseProperty σ (nI k) 2 else 0) (nC σ) :=
  lpz_0 (G := g_L_isSound_466 σ ti) (f := fun k => if f_X2_courseProperty σ (nI k) 0 = nI ti then f_X2_courseProperty σ (nI k) 2 else 0) (fun fu k a => by
    rw [g_L_isSound_466]
    by_cases c0 : f_X2_nextCopy σ (nI k) < 0 <;> simp [c0])
end SUMS

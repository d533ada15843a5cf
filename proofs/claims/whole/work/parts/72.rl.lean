/-! ===== what is told, the same of both: numbers of things ===== -/
section RL3
variable {σ : Nat → Nat → Int32} {μ : Nat → Nat → Int32}
/-- an index that is told by a switch: outside the range the one answers -3, as the other's default -/
theorem sw_lt (n : Nat) (hn : n < 1000) {y : Int32} (h : ¬ f_X2_isBetween y 0 (nI n) = 0) : tn y ≤ n ∧ y = nI (tn y) := btwN n h (by decide) rfl (by omega)
theorem sw_out {y : Int32} {n : Nat} (h : f_X2_isBetween y 0 (nI n) = 0) {k : Nat} (hk : k ≤ n) (hn : n < 1000) : ¬ y = nI k := by
  intro e
  refine btw_z h ?_
  rw [e]
  exact ⟨nI_pos' (by omega), nI_le hk (by omega)⟩
theorem max_sub {d s : Int32} (b1 : bnd d 0 1200) (b2 : bnd s 0 60) : (if d ≤ s then 0 else d - s) = (if 0 < d - s then d - s else 0) := by
  have e1 := b_sub b1 b2
  have z0 : (0 : Int32).toInt = 0 := by decide
  by_cases q : d ≤ s
  · rw [if_pos q, if_neg]
    rw [Int32.le_iff_toInt_le] at q
    rw [Int32.lt_iff_toInt_lt, e1]
    omega
  · rw [if_neg q, if_pos]
    rw [Int32.le_iff_toInt_le] at q
    rw [Int32.lt_iff_toInt_lt, e1]
    omega
theorem t4 {d s a b c e f g : Int32} (b1 : bnd d 0 1200) (b2 : bnd s 0 60) : (if (4 : Nat) = 0 then a else if (4 : Nat) = 1 then b else if (4 : Nat) = 2 then d else if (4 : Nat) = 3 then s else if (4 : Nat) = 4 then (if d ≤ s then 0 else d - s) else if (4 : Nat) = 5 then c else e) = (if nI 4 = 0 then a else if nI 4 = 1 then b else if nI 4 = 2 then d else if nI 4 = 3 then s else if nI 4 = 4 then (if 0 < d - s then d - s else 0) else if nI 4 = 5 then c else if nI 4 = 6 then f else g) := by
  rw [if_neg (by decide), if_neg (by decide), if_neg (by decide), if_neg (by decide), if_pos rfl, if_neg (show ¬ nI 4 = 0 by decide), if_neg (show ¬ nI 4 = 1 by decide), if_neg (show ¬ nI 4 = 2 by decide), if_neg (show ¬ nI 4 = 3 by decide), if_pos (show nI 4 = 4 by decide)]
  exact max_sub b1 b2
theorem t5 {d s a b c e g u v : Int32} : (if (5 : Nat) = 0 then a else if (5 : Nat) = 1 then b else if (5 : Nat) = 2 then d else if (5 : Nat) = 3 then s else if (5 : Nat) = 4 then u else if (5 : Nat) = 5 then c else e) = (if nI 5 = 0 then a else if nI 5 = 1 then b else if nI 5 = 2 then d else if nI 5 = 3 then s else if nI 5 = 4 then v else if nI 5 = 5 then c else if nI 5 = 6 then e else g) := by
  rw [if_neg (by decide), if_neg (by decide), if_neg (by decide), if_neg (by decide), if_neg (by decide), if_pos rfl, if_neg (show ¬ nI 5 = 0 by decide), if_neg (show ¬ nI 5 = 1 by decide), if_neg (show ¬ nI 5 = 2 by decide), if_neg (show ¬ nI 5 = 3 by decide), if_neg (show ¬ nI 5 = 4 by decide), if_pos (show nI 5 = 5 by decide)]
theorem tt6 {d s a b c e g u v : Int32} : (if (6 : Nat) = 0 then a else if (6 : Nat) = 1 then b else if (6 : Nat) = 2 then d else if (6 : Nat) = 3 then s else if (6 : Nat) = 4 then u else if (6 : Nat) = 5 then c else e) = (if nI 6 = 0 then a else if nI 6 = 1 then b else if nI 6 = 2 then d else if nI 6 = 3 then s else if nI 6 = 4 then v else if nI 6 = 5 then c else if nI 6 = 6 then e else g) := by
  rw [if_neg (by decide), if_neg (by decide), if_neg (by decide), if_neg (by decide), if_neg (by decide), if_neg (by decide), if_neg (show ¬ nI 6 = 0 by decide), if_neg (show ¬ nI 6 = 1 by decide), if_neg (show ¬ nI 6 = 2 by decide), if_neg (show ¬ nI 6 = 3 by decide), if_neg (show ¬ nI 6 = 4 by decide), if_neg (show ¬ nI 6 = 5 by decide), if_pos (show nI 6 = 6 by decide)]
theorem q_titleNow (h : rl σ (μ 0)) {i k : Nat} (hi : i < nT σ) (hk : k < 7) : f_X4_titleNow μ i k = f_X2_titleProperty σ (nI i) (nI k) := by
  have t6 := rl_6t h hi
  have ti : tn (nI i) = i := tn_nI (by omega)
  have hT : f_X2_hasTitle σ (nI i) ≠ 0 := fun q => hasTitle_no (rl_ok h) q ⟨i, hi, rfl⟩
  unfold f_X4_titleNow f_X2_titleProperty
  rw [rl_price h t6, rl_cur h t6, q_demand h, q_supply h, q_ofTitleN h, q_ofTitle h _ _ (by decide), if_neg hT, ti]
  match k, hk with
  | 0, _ => rfl
  | 1, _ => rfl
  | 2, _ => rfl
  | 3, _ => rfl
  | 4, _ => exact t4 (b_demand h (nI i)) (b_supply h (nI i))
  | 5, _ => with_reducible exact t5
  | 6, _ => with_reducible exact tt6
  | q + 7, z => exact absurd z (by omega)
theorem title_out {y : Int32} (d : f_X2_isBetween y 0 (nI 6) = 0) {x : Int32} (c : ¬ f_X2_hasTitle σ x = 0) : f_X2_titleProperty σ x y = -3 := by
  unfold f_X2_titleProperty
  rw [if_neg c, if_neg (show ¬ y = 0 from sw_out d (k := 0) (by omega) (by omega)), if_neg (show ¬ y = 1 from sw_out d (k := 1) (by omega) (by omega)), if_neg (show ¬ y = 2 from sw_out d (k := 2) (by omega) (by omega)), if_neg (show ¬ y = 3 from sw_out d (k := 3) (by omega) (by omega)), if_neg (show ¬ y = 4 from sw_out d (k := 4) (by omega) (by omega)), if_neg (show ¬ y = 5 from sw_out d (k := 5) (by omega) (by omega)), if_neg (show ¬ y = 6 from sw_out d (k := 6) (by omega) (by omega))]
theorem q_title (h : rl σ (μ 0)) (x y : Int32) : f_X4_title μ x y = f_X2_titleProperty σ x y := by
  unfold f_X4_title
  rw [e_isT h, e_in]
  by_cases c : f_X2_hasTitle σ x = 0
  · rw [if_pos c]; unfold f_X2_titleProperty; rw [if_pos c]
  · rw [if_neg c]
    obtain ⟨t1, t2⟩ := hasTitle_ok (rl_ok h) c
    by_cases d : f_X2_isBetween y 0 6 = 0
    · rw [if_pos d]; exact (title_out d c).symm
    · rw [if_neg d]
      obtain ⟨y1, y2⟩ := sw_lt 6 (by omega) d
      rw [q_titleNow h t1 (by omega), ← t2, ← y2]
theorem q_courseNow (h : rl σ (μ 0)) {i k : Nat} (hi : i < nC σ) (hk : k < 4) : f_X4_courseNow μ i k = f_X2_courseProperty σ (nI i) (nI k) := by
  have t6 := rl_6 h hi
  have ti : tn (nI i) = i := tn_nI (by omega)
  have hT : f_X2_hasCourse σ (nI i) ≠ 0 := fun q => hasCourse_no (rl_ok h) q ⟨i, hi, rfl⟩
  unfold f_X4_courseNow f_X2_courseProperty
  rw [q_stockFor h t6, if_neg hT, ti]
  match k, hk with
  | 0, _ => exact rl_c0 h t6
  | 1, _ => exact rl_c1 h t6
  | 2, _ => exact rl_c2 h t6
  | 3, _ => rfl
  | q + 4, z => exact absurd z (by omega)
theorem course_out {y : Int32} (d : f_X2_isBetween y 0 (nI 3) = 0) {x : Int32} (c : ¬ f_X2_hasCourse σ x = 0) : f_X2_courseProperty σ x y = -3 := by
  unfold f_X2_courseProperty
  rw [if_neg c, if_neg (show ¬ y = 0 from sw_out d (k := 0) (by omega) (by omega)), if_neg (show ¬ y = 1 from sw_out d (k := 1) (by omega) (by omega)), if_neg (show ¬ y = 2 from sw_out d (k := 2) (by omega) (by omega)), if_neg (show ¬ y = 3 from sw_out d (k := 3) (by omega) (by omega))]
theorem q_course (h : rl σ (μ 0)) (x y : Int32) : f_X4_course μ x y = f_X2_courseProperty σ x y := by
  unfold f_X4_course
  rw [e_isC h, e_in]
  by_cases c : f_X2_hasCourse σ x = 0
  · rw [if_pos c]; unfold f_X2_courseProperty; rw [if_pos c]
  · rw [if_neg c]
    obtain ⟨t1, t2⟩ := hasCourse_ok (rl_ok h) c
    by_cases d : f_X2_isBetween y 0 3 = 0
    · rw [if_pos d]; exact (course_out d c).symm
    · rw [if_neg d]
      obtain ⟨y1, y2⟩ := sw_lt 3 (by omega) d
      rw [q_courseNow h t1 (by omega), ← t2, ← y2]
theorem q_copyNow (h : rl σ (μ 0)) {i k : Nat} (hi : i < nN σ) (hk : k < 11) : f_X4_copyNow μ i k = f_X2_copyProperty σ (nI i) (nI k) := by
  have t6 := rl_60 h hi
  have ti : tn (nI i) = i := tn_nI (by omega)
  have hT : f_X2_hasCopy σ (nI i) ≠ 0 := fun q => hasCopy_no (rl_ok h) q ⟨i, hi, rfl⟩
  unfold f_X4_copyNow f_X2_copyProperty
  rw [e_worthOf h hi, q_isOfUse h, rl_o0 h t6, rl_o1 h t6, e_late h hi, if_neg hT, ti]
  by_cases a : σ 13 i = 1
  · rw [if_pos a, if_pos a]
    match k, hk with
    | 0, _ => exact rl_o0 h t6
    | 1, _ => exact rl_o1 h t6
    | 2, _ => exact rl_o2 h t6
    | 3, _ => exact rl_o3 h t6
    | 4, _ => exact rl_o4 h hi a
    | 5, _ => exact rl_o5 h hi a
    | 6, _ => rfl
    | 7, _ => rfl
    | 8, _ => rfl
    | 9, _ => rfl
    | 10, _ => rfl
    | q + 11, z => exact absurd z (by omega)
  · rw [if_neg a, if_neg a]
    match k, hk with
    | 0, _ => exact rl_o0 h t6
    | 1, _ => exact rl_o1 h t6
    | 2, _ => exact rl_o2 h t6
    | 3, _ => exact rl_o3 h t6
    | 4, _ => exact rl_n4 h hi a
    | 5, _ => exact rl_n5 h hi a
    | 6, _ => rfl
    | 7, _ => rfl
    | 8, _ => rfl
    | 9, _ => rfl
    | 10, _ => rfl
    | q + 11, z => exact absurd z (by omega)
theorem copy_out {y : Int32} (d : f_X2_isBetween y 0 (nI 10) = 0) {x : Int32} (c : ¬ f_X2_hasCopy σ x = 0) : f_X2_copyProperty σ x y = -3 := by
  unfold f_X2_copyProperty
  have e0 : ¬ y = 0 := sw_out d (k := 0) (by omega) (by omega)
  have e1 : ¬ y = 1 := sw_out d (k := 1) (by omega) (by omega)
  have e2 : ¬ y = 2 := sw_out d (k := 2) (by omega) (by omega)
  have e3 : ¬ y = 3 := sw_out d (k := 3) (by omega) (by omega)
  have e4 : ¬ y = 4 := sw_out d (k := 4) (by omega) (by omega)
  have e5 : ¬ y = 5 := sw_out d (k := 5) (by omega) (by omega)
  have e6 : ¬ y = 6 := sw_out d (k := 6) (by omega) (by omega)
  have e7 : ¬ y = 7 := sw_out d (k := 7) (by omega) (by omega)
  have e8 : ¬ y = 8 := sw_out d (k := 8) (by omega) (by omega)
  have e9 : ¬ y = 9 := sw_out d (k := 9) (by omega) (by omega)
  have e10 : ¬ y = 10 := sw_out d (k := 10) (by omega) (by omega)
  simp only [if_neg c, if_neg e0, if_neg e1, if_neg e2, if_neg e3, if_neg e4, if_neg e5, if_neg e6, if_neg e7, if_neg e8, if_neg e9, if_neg e10, ite_self]
theorem q_copy (h : rl σ (μ 0)) (x y : Int32) : f_X4_copy μ x y = f_X2_copyProperty σ x y := by
  unfold f_X4_copy
  rw [e_isK h, e_in]
  by_cases c : f_X2_hasCopy σ x = 0
  · rw [if_pos c]; unfold f_X2_copyProperty; rw [if_pos c]
  · rw [if_neg c]
    obtain ⟨t1, t2⟩ := hasCopy_ok (rl_ok h) c
    by_cases d : f_X2_isBetween y 0 10 = 0
    · rw [if_pos d]; exact (copy_out d c).symm
    · rw [if_neg d]
      obtain ⟨y1, y2⟩ := sw_lt 10 (by omega) d
      rw [q_copyNow h t1 (by omega), ← t2, ← y2]
theorem q_count (h : rl σ (μ 0)) (x : Int32) : f_X4_count μ x = f_X2_numberOf σ x := by
  unfold f_X4_count
  rw [e_in]
  by_cases d : f_X2_isBetween x 0 13 = 0
  · rw [if_pos d]
    have d : f_X2_isBetween x 0 (nI 13) = 0 := d
    have e0 : ¬ x = 0 := sw_out d (k := 0) (by omega) (by omega)
    have e1 : ¬ x = 1 := sw_out d (k := 1) (by omega) (by omega)
    have e2 : ¬ x = 2 := sw_out d (k := 2) (by omega) (by omega)
    have e3 : ¬ x = 3 := sw_out d (k := 3) (by omega) (by omega)
    have e4 : ¬ x = 4 := sw_out d (k := 4) (by omega) (by omega)
    have e5 : ¬ x = 5 := sw_out d (k := 5) (by omega) (by omega)
    have e6 : ¬ x = 6 := sw_out d (k := 6) (by omega) (by omega)
    have e7 : ¬ x = 7 := sw_out d (k := 7) (by omega) (by omega)
    have e8 : ¬ x = 8 := sw_out d (k := 8) (by omega) (by omega)
    have e9 : ¬ x = 9 := sw_out d (k := 9) (by omega) (by omega)
    have e10 : ¬ x = 10 := sw_out d (k := 10) (by omega) (by omega)
    have e11 : ¬ x = 11 := sw_out d (k := 11) (by omega) (by omega)
    have e12 : ¬ x = 12 := sw_out d (k := 12) (by omega) (by omega)
    have e13 : ¬ x = 13 := sw_out d (k := 13) (by omega) (by omega)
    unfold f_X2_numberOf
    simp only [if_neg e0, if_neg e1, if_neg e2, if_neg e3, if_neg e4, if_neg e5, if_neg e6, if_neg e7, if_neg e8, if_neg e9, if_neg e10, if_neg e11, if_neg e12, if_neg e13]
  · rw [if_neg d]
    obtain ⟨y1, y2⟩ := sw_lt 13 (by omega) d
    rw [q_number h _ (by omega), ← y2]
theorem q_sumN (h : rl σ (μ 0)) {k : Nat} (hk : k < 8) : f_X4_sum μ k = f_X2_sumOf σ (nI k) := by
  have tk : tn (nI k) = k := tn_nI (by omega)
  have hb : ¬ f_X2_isBetween (nI k) 0 7 = 0 := by
    intro q
    exact btw_z q ⟨nI_pos' (by omega), nI_le (a := k) (b := 7) (by omega) (by decide)⟩
  unfold f_X4_sum f_X2_sumOf
  rw [if_neg hb, tk]
  by_cases c : 7 ≤ k
  · rw [if_pos c, if_pos c]
    have s0 := rl_sum h (k := 0) (by decide)
    have s1 := rl_sum h (k := 1) (by decide)
    have s2 := rl_sum h (k := 2) (by decide)
    have s3 := rl_sum h (k := 3) (by decide)
    have s4 := rl_sum h (k := 4) (by decide)
    have s5 : μ 0 13 = σ 16 5 := rl_sum h (k := 5) (by decide)
    have s6 : μ 0 14 = σ 16 6 := rl_sum h (k := 6) (by decide)
    rw [s5, s6]
    have e : g_X4_sum_20 μ k (5 + 1) 0 0 = (((((0 + σ 16 0) + σ 16 1) + σ 16 2) + σ 16 3) + σ 16 4) := by
      rw [g_X4_sum_20, if_neg (by omega), g_X4_sum_20, if_neg (by omega), g_X4_sum_20, if_neg (by omega), g_X4_sum_20, if_neg (by omega), g_X4_sum_20, if_neg (by omega), g_X4_sum_20, if_pos (by omega)]
      rw [s0, s1, s2, s3, s4]
    rw [e, Int32.zero_add]
  · rw [if_neg c, if_neg c]
    exact rl_sum h (by omega)
theorem q_book (h : rl σ (μ 0)) (x : Int32) : f_X4_book μ x = f_X2_sumOf σ x := by
  unfold f_X4_book
  rw [e_in]
  by_cases d : f_X2_isBetween x 0 7 = 0
  · rw [if_pos d]; unfold f_X2_sumOf; rw [if_pos d]
  · rw [if_neg d]
    obtain ⟨y1, y2⟩ := sw_lt 7 (by omega) d
    rw [q_sumN h (k := tn x) (by omega), ← y2]
theorem q_custN (h : rl σ (μ 0)) {i k : Nat} (hi : i < 8) (hk : k < 3) : f_X4_customerNow μ i (nI k) = f_X2_customerNumber σ (nI i) (nI k) := by
  have ti : tn (nI i) = i := tn_nI (by omega)
  have hT : f_X2_hasCustomer (nI i) ≠ 0 := fun q => btw_z q ⟨nI_pos' (by omega), nI_le (a := i) (b := 7) (by omega) (by decide)⟩
  unfold f_X4_customerNow f_X2_customerNumber
  rw [if_neg hT, ti]
  match k, hk with
  | 0, _ =>
    rw [show nI 0 = (0 : Int32) from rfl]
    simp (decide := true) only [if_true, if_false]
    exact q_rentedBy h i
  | 1, _ =>
    rw [show nI 1 = (1 : Int32) from rfl]
    simp (decide := true) only [if_true, if_false]
    exact q_lateBy h i
  | 2, _ =>
    rw [show nI 2 = (2 : Int32) from rfl]
    simp (decide := true) only [if_true, if_false]
    exact rl_chg h hi
  | q + 3, z => exact absurd z (by omega)
theorem q_customer (h : rl σ (μ 0)) (x y : Int32) : f_X4_customer μ x y = f_X2_customerNumber σ x y := by
  unfold f_X4_customer
  rw [e_isU, e_in]
  by_cases c : f_X2_hasCustomer x = 0
  · rw [if_pos c]; unfold f_X2_customerNumber; rw [if_pos c]
  · rw [if_neg c]
    obtain ⟨t1, t2⟩ := hasCustomer_ok c
    by_cases d : f_X2_isBetween y 0 2 = 0
    · rw [if_pos d]
      have d : f_X2_isBetween y 0 (nI 2) = 0 := d
      have e0 : ¬ y = 0 := sw_out d (k := 0) (by omega) (by omega)
      have e1 : ¬ y = 1 := sw_out d (k := 1) (by omega) (by omega)
      have e2 : ¬ y = 2 := sw_out d (k := 2) (by omega) (by omega)
      unfold f_X2_customerNumber
      rw [if_neg c, if_neg e0, if_neg e1, if_neg e2]
    · rw [if_neg d]
      obtain ⟨y1, y2⟩ := sw_lt 2 (by omega) d
      have q := q_custN h t1 (show tn y < 3 by omega)
      rw [← t2, ← y2] at q
      exact q
end RL3

/-! ===== the text, read the same by both: orders ===== -/
section TZ
variable {τ μ : Nat → Nat → Int32}
theorem d27 {x y a b : Int} (h : 27 * x + a = 27 * y + b) (ha : 1 ≤ a ∧ a ≤ 26) (hb : 1 ≤ b ∧ b ≤ 26) : x = y ∧ a = b := by omega
theorem wl4 {B : Nat → Int32} {s c : Nat} {a1 a2 a3 a4 : Int} (hL : ∀ j, j < c → ltr (B (s + j))) (h1 : 1 ≤ a1 ∧ a1 ≤ 26) (h2 : 1 ≤ a2 ∧ a2 ≤ 26) (h3 : 1 ≤ a3 ∧ a3 ≤ 26) (h4 : 1 ≤ a4 ∧ a4 ≤ 26) :
    wl B s (if c ≤ 5 then c else 5) = 27 * (27 * (27 * a1 + a2) + a3) + a4 ↔ (c = 4 ∧ (B (s + 0)).toInt = 96 + a1 ∧ (B (s + 1)).toInt = 96 + a2 ∧ (B (s + 2)).toInt = 96 + a3 ∧ (B (s + 3)).toInt = 96 + a4) := by
  have l0 : 0 < c → _ := fun z => ltr_i (hL 0 z)
  have l1 : 1 < c → _ := fun z => ltr_i (hL 1 z)
  have l2 : 2 < c → _ := fun z => ltr_i (hL 2 z)
  have l3 : 3 < c → _ := fun z => ltr_i (hL 3 z)
  have l4 : 4 < c → _ := fun z => ltr_i (hL 4 z)
  have hc : c = 0 ∨ c = 1 ∨ c = 2 ∨ c = 3 ∨ c = 4 ∨ 5 ≤ c := by omega
  rcases hc with e | e | e | e | e | e
  · subst e; rw [if_pos (by omega)]; simp only [wl]; omega
  · subst e; rw [if_pos (by omega)]; simp only [wl]; omega
  · subst e; rw [if_pos (by omega)]; simp only [wl]; omega
  · subst e; rw [if_pos (by omega)]; simp only [wl]; omega
  · subst e; rw [if_pos (by omega)]
    refine ⟨fun z => ?_, fun z => by simp only [wl]; omega⟩
    simp only [wl] at z
    obtain ⟨z1, e4⟩ := d27 z (by omega) h4
    obtain ⟨z2, e3⟩ := d27 z1 (by omega) h3
    obtain ⟨z3, e2⟩ := d27 z2 (by omega) h2
    omega
  · have e5 : (if c ≤ 5 then c else 5) = 5 := by split <;> omega
    rw [e5]; simp only [wl]; omega
theorem wl3 {B : Nat → Int32} {s c : Nat} {a1 a2 a3 : Int} (hL : ∀ j, j < c → ltr (B (s + j))) (h1 : 1 ≤ a1 ∧ a1 ≤ 26) (h2 : 1 ≤ a2 ∧ a2 ≤ 26) (h3 : 1 ≤ a3 ∧ a3 ≤ 26) :
    wl B s (if c ≤ 5 then c else 5) = 27 * (27 * a1 + a2) + a3 ↔ (c = 3 ∧ (B (s + 0)).toInt = 96 + a1 ∧ (B (s + 1)).toInt = 96 + a2 ∧ (B (s + 2)).toInt = 96 + a3) := by
  have l0 : 0 < c → _ := fun z => ltr_i (hL 0 z)
  have l1 : 1 < c → _ := fun z => ltr_i (hL 1 z)
  have l2 : 2 < c → _ := fun z => ltr_i (hL 2 z)
  have l3 : 3 < c → _ := fun z => ltr_i (hL 3 z)
  have l4 : 4 < c → _ := fun z => ltr_i (hL 4 z)
  have hc : c = 0 ∨ c = 1 ∨ c = 2 ∨ c = 3 ∨ c = 4 ∨ 5 ≤ c := by omega
  rcases hc with e | e | e | e | e | e
  · subst e; rw [if_pos (by omega)]; simp only [wl]; omega
  · subst e; rw [if_pos (by omega)]; simp only [wl]; omega
  · subst e; rw [if_pos (by omega)]; simp only [wl]; omega
  · subst e; rw [if_pos (by omega)]
    refine ⟨fun z => ?_, fun z => by simp only [wl]; omega⟩
    simp only [wl] at z
    obtain ⟨z1, e4⟩ := d27 z (by omega) h3
    obtain ⟨z2, e3⟩ := d27 z1 (by omega) h2
    omega
  · subst e; rw [if_pos (by omega)]; simp only [wl]; omega
  · have e5 : (if c ≤ 5 then c else 5) = 5 := by split <;> omega
    rw [e5]; simp only [wl]; omega
theorem eqI {x : Int32} {c : Int32} {n : Int} (hc : c.toInt = n) : (x = c) ↔ x.toInt = n := by rw [← hc]; exact Int32.toInt_inj.symm
/-- the word that stands here -/
theorem word_eq (h : TS τ μ) : (m_X4_order μ).1 = (m_X1_readWord (s_X1_skipBlanks τ)).1 ∧ ((m_X1_readWord (s_X1_skipBlanks τ)).1 ≠ -1 → xa (m_X1_readWord (s_X1_skipBlanks τ)).2 = xa (s_X1_skipBlanks τ) + (if (m_X1_readWord (s_X1_skipBlanks τ)).1 = 2 then 3 else 4)) := by
  obtain ⟨hk, -, -⟩ := TS_skip h
  have x1 := TS_x hk
  obtain ⟨w0, w1, w2, w3, w4, w5⟩ := word_g (s_X1_skipBlanks τ) 101 (s_X1_skipBlanks τ) (by omega) hk.1
  have wx : xl (g_X1_readWord_5 (s_X1_skipBlanks τ) 101 (s_X1_skipBlanks τ)) = xl (s_X1_skipBlanks τ) := by unfold xl; rw [w5]
  have wle := w0.2.2
  rw [wx] at wle
  obtain ⟨c, hc⟩ : ∃ c, xa (g_X1_readWord_5 (s_X1_skipBlanks τ) 101 (s_X1_skipBlanks τ)) = xa (s_X1_skipBlanks τ) + c := ⟨xa (g_X1_readWord_5 (s_X1_skipBlanks τ) 101 (s_X1_skipBlanks τ)) - xa (s_X1_skipBlanks τ), by omega⟩
  rw [hc] at w2 w3 wle
  have hL : ∀ j, j < c → ltr ((s_X1_skipBlanks τ) 0 (xa (s_X1_skipBlanks τ) + j)) := fun j hj => w2 _ (by omega) (by omega)
  have hV := wordM_g h wle hL w3 101 0 0 (by omega) (by omega) (by omega) (by show (0 : Int32).toInt = 0; decide)
  rw [Nat.add_zero] at hV
  have hsub : xa (g_X1_readWord_5 (s_X1_skipBlanks τ) 101 (s_X1_skipBlanks τ)) - xa (s_X1_skipBlanks τ) = c := by omega
  have hst : ∀ k, (f_X1_stands (g_X1_readWord_5 (s_X1_skipBlanks τ) 101 (s_X1_skipBlanks τ)) k (xa (s_X1_skipBlanks τ)) = 0) = ¬ (c = sLen.getD k 0 ∧ ∀ j, j < sLen.getD k 0 → (s_X1_skipBlanks τ) 0 (xa (s_X1_skipBlanks τ) + j) = sCh k j) := by
    intro k
    unfold f_X1_stands
    rw [hsub]
    by_cases a : sLen.getD k 0 = c
    · have := sLen_le k
      rw [if_pos a, stands_g 5 0 (by omega) (by rw [wx, a]; exact wle), w4]
      refine propext ⟨fun z y => z (fun j _ hj => y.2 j hj), fun z y => z ⟨a.symm, fun j hj => y j (Nat.zero_le _) hj⟩⟩
    · rw [if_neg a]
      exact propext ⟨fun _ y => a y.1.symm, fun _ => rfl⟩
  have s0 := hst 0
  have s1 := hst 1
  have s2 := hst 2
  have s3 := hst 3
  have s4 := hst 4
  have ew : (m_X4_word μ).1 = g_X4_word_12 μ 101 (xa (s_X1_skipBlanks τ)) 0 := by
    show g_X4_word_12 μ 101 (ta (m_X4_here μ).2) 0 = _
    rw [TS_a hk]
  unfold m_X4_order m_X1_readWord
  rw [ew]
  generalize (m_X4_word μ).2 = H2
  have hf := w4
  generalize g_X1_readWord_5 (s_X1_skipBlanks τ) 101 (s_X1_skipBlanks τ) = W at *
  generalize g_X4_word_12 μ 101 (xa (s_X1_skipBlanks τ)) 0 = V at *
  generalize (s_X1_skipBlanks τ) 0 = B at *
  generalize xa (s_X1_skipBlanks τ) = s at *
  have v0 : (V = f_X4_spelt 114 101 110 116) ↔ (c = 4 ∧ B (s + 0) = 114 ∧ B (s + 1) = 101 ∧ B (s + 2) = 110 ∧ B (s + 3) = 116) := by
    rw [eqI (n := 27 * (27 * (27 * 18 + 5) + 14) + 20) (by decide), hV, wl4 hL (by decide) (by decide) (by decide) (by decide), eqI (c := 114) (n := 96 + 18) (by decide), eqI (c := 101) (n := 96 + 5) (by decide), eqI (c := 110) (n := 96 + 14) (by decide), eqI (c := 116) (n := 96 + 20) (by decide)]
  have v1 : (V = f_X4_spelt 98 97 99 107) ↔ (c = 4 ∧ B (s + 0) = 98 ∧ B (s + 1) = 97 ∧ B (s + 2) = 99 ∧ B (s + 3) = 107) := by
    rw [eqI (n := 27 * (27 * (27 * 2 + 1) + 3) + 11) (by decide), hV, wl4 hL (by decide) (by decide) (by decide) (by decide), eqI (c := 98) (n := 96 + 2) (by decide), eqI (c := 97) (n := 96 + 1) (by decide), eqI (c := 99) (n := 96 + 3) (by decide), eqI (c := 107) (n := 96 + 11) (by decide)]
  have v2 : (V = f_X4_spelt 98 117 121 0) ↔ (c = 3 ∧ B (s + 0) = 98 ∧ B (s + 1) = 117 ∧ B (s + 2) = 121) := by
    rw [eqI (n := 27 * (27 * 2 + 21) + 25) (by decide), hV, wl3 hL (by decide) (by decide) (by decide), eqI (c := 98) (n := 96 + 2) (by decide), eqI (c := 117) (n := 96 + 21) (by decide), eqI (c := 121) (n := 96 + 25) (by decide)]
  have v3 : (V = f_X4_spelt 115 101 108 108) ↔ (c = 4 ∧ B (s + 0) = 115 ∧ B (s + 1) = 101 ∧ B (s + 2) = 108 ∧ B (s + 3) = 108) := by
    rw [eqI (n := 27 * (27 * (27 * 19 + 5) + 12) + 12) (by decide), hV, wl4 hL (by decide) (by decide) (by decide) (by decide), eqI (c := 115) (n := 96 + 19) (by decide), eqI (c := 101) (n := 96 + 5) (by decide), eqI (c := 108) (n := 96 + 12) (by decide), eqI (c := 108) (n := 96 + 12) (by decide)]
  have v4 : (V = f_X4_spelt 119 97 105 116) ↔ (c = 4 ∧ B (s + 0) = 119 ∧ B (s + 1) = 97 ∧ B (s + 2) = 105 ∧ B (s + 3) = 116) := by
    rw [eqI (n := 27 * (27 * (27 * 23 + 1) + 9) + 20) (by decide), hV, wl4 hL (by decide) (by decide) (by decide) (by decide), eqI (c := 119) (n := 96 + 23) (by decide), eqI (c := 97) (n := 96 + 1) (by decide), eqI (c := 105) (n := 96 + 9) (by decide), eqI (c := 116) (n := 96 + 20) (by decide)]
  have a4 : ∀ P : Nat → Prop, (∀ j, j < 4 → P j) ↔ (P 0 ∧ P 1 ∧ P 2 ∧ P 3) := fun P => ⟨fun z => ⟨z 0 (by omega), z 1 (by omega), z 2 (by omega), z 3 (by omega)⟩, fun z j hj => by
    match j, hj with
    | 0, _ => exact z.1
    | 1, _ => exact z.2.1
    | 2, _ => exact z.2.2.1
    | 3, _ => exact z.2.2.2⟩
  have a3 : ∀ P : Nat → Prop, (∀ j, j < 3 → P j) ↔ (P 0 ∧ P 1 ∧ P 2) := fun P => ⟨fun z => ⟨z 0 (by omega), z 1 (by omega), z 2 (by omega)⟩, fun z j hj => by
    match j, hj with
    | 0, _ => exact z.1
    | 1, _ => exact z.2.1
    | 2, _ => exact z.2.2⟩
  have t0 : (f_X1_stands W 0 s = 0) = ¬ (V = f_X4_spelt 114 101 110 116) := s0.trans (congrArg Not (propext ((and_congr_right (fun _ => a4 _)).trans v0.symm)))
  have t1 : (f_X1_stands W 1 s = 0) = ¬ (V = f_X4_spelt 98 97 99 107) := s1.trans (congrArg Not (propext ((and_congr_right (fun _ => a4 _)).trans v1.symm)))
  have t2 : (f_X1_stands W 2 s = 0) = ¬ (V = f_X4_spelt 98 117 121 0) := s2.trans (congrArg Not (propext ((and_congr_right (fun _ => a3 _)).trans v2.symm)))
  have t3 : (f_X1_stands W 3 s = 0) = ¬ (V = f_X4_spelt 115 101 108 108) := s3.trans (congrArg Not (propext ((and_congr_right (fun _ => a4 _)).trans v3.symm)))
  have t4 : (f_X1_stands W 4 s = 0) = ¬ (V = f_X4_spelt 119 97 105 116) := s4.trans (congrArg Not (propext ((and_congr_right (fun _ => a4 _)).trans v4.symm)))
  simp only [t0, t1, t2, t3, t4, ite_not]
  by_cases p0 : V = f_X4_spelt 114 101 110 116
  · rw [if_pos p0, if_pos p0]
    refine ⟨rfl, fun _ => ?_⟩
    show xa W = s + (if (0 : Int32) = 2 then 3 else 4)
    rw [if_neg (by decide), hc, (v0.mp p0).1]
  rw [if_neg p0, if_neg p0]
  by_cases p1 : V = f_X4_spelt 98 97 99 107
  · rw [if_pos p1, if_pos p1]
    refine ⟨rfl, fun _ => ?_⟩
    show xa W = s + (if (1 : Int32) = 2 then 3 else 4)
    rw [if_neg (by decide), hc, (v1.mp p1).1]
  rw [if_neg p1, if_neg p1]
  by_cases p2 : V = f_X4_spelt 98 117 121 0
  · rw [if_pos p2, if_pos p2]
    refine ⟨rfl, fun _ => ?_⟩
    show xa W = s + (if (2 : Int32) = 2 then 3 else 4)
    rw [if_pos (by decide), hc, (v2.mp p2).1]
  rw [if_neg p2, if_neg p2]
  by_cases p3 : V = f_X4_spelt 115 101 108 108
  · rw [if_pos p3, if_pos p3]
    refine ⟨rfl, fun _ => ?_⟩
    show xa W = s + (if (3 : Int32) = 2 then 3 else 4)
    rw [if_neg (by decide), hc, (v3.mp p3).1]
  rw [if_neg p3, if_neg p3]
  by_cases p4 : V = f_X4_spelt 119 97 105 116
  · rw [if_pos p4, if_pos p4]
    refine ⟨rfl, fun _ => ?_⟩
    show xa W = s + (if (4 : Int32) = 2 then 3 else 4)
    rw [if_neg (by decide), hc, (v4.mp p4).1]
  rw [if_neg p4, if_neg p4]
  exact ⟨rfl, fun z => absurd rfl z⟩
end TZ

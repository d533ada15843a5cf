/-! ===== each change keeps it ===== -/
section KEEP
variable {σ τ : ST}
theorem bk16 {i : Nat} {v : Int32} : bok 16 i v := trivial
theorem bk17 {i : Nat} {v : Int32} : bok 17 i v := trivial
theorem ar0 (a b c d v : Int32) : (((a + v) + b) + c) + d = (((a + b) + c) + d) + v := by rw [add_r a v b, add_r (a + b) v c, add_r (a + b + c) v d]
theorem ar1 (a b c d v : Int32) : ((a + (b + v)) + c) + d = (((a + b) + c) + d) + v := by rw [← Int32.add_assoc a b v, add_r (a + b) v c, add_r (a + b + c) v d]
theorem ar2 (a b c d v : Int32) : ((a + b) + (c + v)) + d = (((a + b) + c) + d) + v := by rw [← Int32.add_assoc (a + b) c v, add_r (a + b + c) v d]
theorem ar3 (a b c d v : Int32) : ((a + b) + c) + (d + v) = (((a + b) + c) + d) + v := by rw [← Int32.add_assoc]
theorem cR_le (e3 : τ 3 = σ 3) (h : ∀ k, τ 13 k = 1 → σ 13 k = 1 ∧ τ 14 k = σ 14 k) (x : Nat) : cR τ x ≤ cR σ x := by
  have en : nN τ = nN σ := by unfold nN; rw [e3]
  unfold cR
  rw [en]
  refine sN_le (fun k _ => ?_)
  show (if ¬ f_X2_isRentedBy τ k (nI x) = 0 then 1 else 0) ≤ (if ¬ f_X2_isRentedBy σ k (nI x) = 0 then 1 else 0)
  by_cases c : ¬ f_X2_isRentedBy τ k (nI x) = 0
  · obtain ⟨c1, c2⟩ := rb_iff.mp c
    obtain ⟨d1, d2⟩ := h k c1
    rw [if_pos c, if_pos (rb_iff.mpr ⟨d1, d2 ▸ c2⟩)]
    exact Nat.le_refl _
  · rw [if_neg c]; exact Nat.zero_le _
theorem inv_of (h : INV σ) (hq : bq τ) (e1 : τ 1 = σ 1) (e3 : τ 3 = σ 3) (e6 : τ 6 = σ 6) (e10 : τ 10 = σ 10) (e13 : ∀ k, τ 13 k = 1 → σ 13 k = 1 ∧ τ 14 k = σ 14 k) (hs : sI (fun x => τ 17 x) 8 = ((τ 16 0 + τ 16 1) + τ 16 2) + τ 16 3) : INV τ := by
  have en : nN τ = nN σ := by unfold nN; rw [e3]
  have et : nT τ = nT σ := by unfold nT; rw [e1]
  refine ⟨hq, fun t ht => ?_, fun k hk => ?_, fun x hx => Nat.le_trans (cR_le e3 e13 x) (iv_r h hx), hs⟩
  · rw [e6]; exact iv_6 h (et ▸ ht)
  · have q := iv_t h (k := k) (en ▸ hk)
    rw [et]
    unfold tOf
    rw [e10]
    exact q
theorem s_same (h : INV σ) (e17 : τ 17 = σ 17) (e0 : τ 16 0 = σ 16 0) (e1 : τ 16 1 = σ 16 1) (e2 : τ 16 2 = σ 16 2) (e3 : τ 16 3 = σ 16 3) : sI (fun x => τ 17 x) 8 = ((τ 16 0 + τ 16 1) + τ 16 2) + τ 16 3 := by
  rw [e17, e0, e1, e2, e3]; exact iv_s h
theorem sI_up {r : Nat} {v : Int32} {f : Nat → Int32} (hr : r < 8) : sI (fun x => if x = r then f r + v else f x) 8 = sI f 8 + v := by
  have g : ∀ n, sI (fun x => if x = r then f r + v else f x) n = if r < n then sI f n + v else sI f n := by
    intro n
    induction n with
    | zero => rfl
    | succ n ih =>
      show sI (fun x => if x = r then f r + v else f x) n + (if n = r then f r + v else f n) = if r < n + 1 then (sI f n + f n) + v else (sI f n + f n)
      rw [ih]
      by_cases c : n = r
      · subst c
        rw [if_pos rfl, if_neg (Nat.lt_irrefl _), if_pos (Nat.lt_succ_self _), Int32.add_assoc]
      · by_cases d : r < n
        · rw [if_neg c, if_pos d, if_pos (by omega), add_r]
        · rw [if_neg c, if_neg d, if_neg (by omega)]
  rw [g, if_pos hr]
theorem s17 {r : Nat} {v : Int32} (hr : r < 8) : sI (fun x => (shU σ 17 r (σ 17 r + v)) 17 x) 8 = sI (fun x => σ 17 x) 8 + v := by
  have e : (fun x => (shU σ 17 r (σ 17 r + v)) 17 x) = fun x => if x = r then σ 17 r + v else σ 17 x := funext fun x => shU_at
  rw [e]
  exact sI_up hr
theorem inv_w (h : INV σ) {f i : Nat} {v : Int32} (hf : f = 4 ∨ f = 5 ∨ f = 8 ∨ f = 9 ∨ f = 12) (hv : bok f i v) (hok : okS (shU σ f i v)) : INV (shU σ f i v) := by
  have ne : ∀ g, g ≠ f → (shU σ f i v) g = σ g := fun g hg => shU_f hg
  refine inv_of h ⟨hok, bdR_w (iv_q h).2 hv⟩ (ne 1 (by omega)) (ne 3 (by omega)) (ne 6 (by omega)) (ne 10 (by omega)) (fun k q => ?_) (s_same h (ne 17 (by omega)) (congrFun (ne 16 (by omega)) 0) (congrFun (ne 16 (by omega)) 1) (congrFun (ne 16 (by omega)) 2) (congrFun (ne 16 (by omega)) 3))
  rw [ne 13 (by omega)] at q
  exact ⟨q, by rw [ne 14 (by omega)]⟩
theorem inv_16 (h : INV σ) {i : Nat} (hi : 4 ≤ i) (v : Int32) : INV (shU σ 16 i v) := by
  have ne : ∀ g, g ≠ 16 → (shU σ 16 i v) g = σ g := fun g hg => shU_f hg
  have n6 : ∀ j, j < 4 → (shU σ 16 i v) 16 j = σ 16 j := fun j hj => shU_ne (by omega)
  have hok : okS (shU σ 16 i v) := okS_of (iv_ok h) (ne 1 (by decide)) (ne 2 (by decide)) (ne 3 (by decide)) (ne 10 (by decide)) (ne 14 (by decide)) (fun j q => q)
  exact inv_of h ⟨hok, bdR_w (iv_q h).2 bk16⟩ (ne 1 (by decide)) (ne 3 (by decide)) (ne 6 (by decide)) (ne 10 (by decide)) (fun k q => ⟨q, by rw [ne 14 (by decide)]⟩) (s_same h (ne 17 (by decide)) (n6 0 (by decide)) (n6 1 (by decide)) (n6 2 (by decide)) (n6 3 (by decide)))
theorem inv_13 (h : INV σ) (i : Nat) {v : Int32} (hv : v ≠ 1) (hb : bnd v 0 4) : INV (shU σ 13 i v) := by
  have ne : ∀ g, g ≠ 13 → (shU σ 13 i v) g = σ g := fun g hg => shU_f hg
  have hok : okS (shU σ 13 i v) := okS_of (iv_ok h) (ne 1 (by decide)) (ne 2 (by decide)) (ne 3 (by decide)) (ne 10 (by decide)) (ne 14 (by decide)) (fun j q => shU_13 hv q)
  exact inv_of h ⟨hok, bdR_w (iv_q h).2 hb⟩ (ne 1 (by decide)) (ne 3 (by decide)) (ne 6 (by decide)) (ne 10 (by decide)) (fun k q => ⟨shU_13 hv q, by rw [ne 14 (by decide)]⟩) (s_same h (ne 17 (by decide)) (congrFun (ne 16 (by decide)) 0) (congrFun (ne 16 (by decide)) 1) (congrFun (ne 16 (by decide)) 2) (congrFun (ne 16 (by decide)) 3))
/-- a customer is charged -/
theorem inv_ch (h : INV σ) {r i : Nat} (hr : r < 8) (hi : i < 4) (v : Int32) : INV (shU (shU σ 16 i (σ 16 i + v)) 17 r (σ 17 r + v)) := by
  have ne : ∀ g, g ≠ 16 → g ≠ 17 → (shU (shU σ 16 i (σ 16 i + v)) 17 r (σ 17 r + v)) g = σ g := fun g h1 h2 => (shU_f h2).trans (shU_f h1)
  have hok : okS (shU (shU σ 16 i (σ 16 i + v)) 17 r (σ 17 r + v)) := okS_of (iv_ok h) (ne 1 (by decide) (by decide)) (ne 2 (by decide) (by decide)) (ne 3 (by decide) (by decide)) (ne 10 (by decide) (by decide)) (ne 14 (by decide) (by decide)) (fun j q => q)
  refine inv_of h ⟨hok, bdR_w (bdR_w (iv_q h).2 bk16) bk17⟩ (ne 1 (by decide) (by decide)) (ne 3 (by decide) (by decide)) (ne 6 (by decide) (by decide)) (ne 10 (by decide) (by decide)) (fun k q => ⟨q, by rw [ne 14 (by decide) (by decide)]⟩) ?_
  have e17 : sI (fun x => (shU (shU σ 16 i (σ 16 i + v)) 17 r (σ 17 r + v)) 17 x) 8 = sI (fun x => σ 17 x) 8 + v := s17 (σ := shU σ 16 i (σ 16 i + v)) hr
  have e16 : ∀ j, (shU (shU σ 16 i (σ 16 i + v)) 17 r (σ 17 r + v)) 16 j = if j = i then σ 16 i + v else σ 16 j := fun j => (congrFun (shU_f (by decide)) j).trans shU_at
  rw [e17, e16, e16, e16, e16, iv_s h]
  rcases (show i = 0 ∨ i = 1 ∨ i = 2 ∨ i = 3 by omega) with rfl | rfl | rfl | rfl
  · exact (ar0 _ _ _ _ v).symm
  · exact (ar1 _ _ _ _ v).symm
  · exact (ar2 _ _ _ _ v).symm
  · exact (ar3 _ _ _ _ v).symm
/-! titles, courses, settings -/
theorem b_price {x : Int32} (c : ¬ f_X2_isPrice x = 0) : bnd x 0 20000 := bnd_w (bnd_btw c) (by decide) (by decide)
theorem b_ed {x : Int32} (c : ¬ f_X2_isEdition x = 0) : bnd x 1 30 := bnd_w (bnd_btw c) (by decide) (by decide)
theorem b_gr {x : Int32} (c : ¬ f_X2_isGrade x = 0) : bnd x 0 4 := bnd_w (bnd_btw c) (by decide) (by decide)
theorem b_stu {x : Int32} (c : ¬ f_X2_isBetween x 0 200 = 0) : bnd x 0 200 := bnd_w (bnd_btw c) (by decide) (by decide)
theorem inv_addTitle (h : INV σ) (x y : Int32) : INV (m_X2_putTitle σ x y).2 := by
  have ok := putTitle_ok (iv_ok h) x y
  unfold m_X2_putTitle at ok ⊢
  by_cases c1 : f_X2_isPrice x = 0
  · rw [if_pos c1]; exact h
  by_cases c2 : f_X2_isEdition y = 0
  · rw [if_neg c1, if_pos c2]; exact h
  by_cases c3 : nT σ < 6
  · rw [if_neg c1, if_neg c2, if_pos c3] at ok ⊢
    have eT : nT (shS (shU (shU σ 5 (nT σ) x) 6 (nT σ) y) 1 ((σ 1 0) + 1)) = nT σ + 1 := by
      show tn (σ 1 0 + 1) = nT σ + 1
      rw [okS_1 (iv_ok h), nI_1, tn_nI (by omega)]
    refine ⟨⟨ok, bdR_s (f := 1) (bdR_w (f := 6) (bdR_w (f := 5) (iv_q h).2 (b_price c1)) (ed_b c2)) (fun _ => trivial)⟩, fun t ht => ?_, fun k hk => ?_, fun z hz => ?_, iv_s (σ := σ) h⟩
    · have e : (shS (shU (shU σ 5 (nT σ) x) 6 (nT σ) y) 1 ((σ 1 0) + 1)) 6 t = if t = nT σ then y else σ 6 t := (congrFun (shS_f (by decide)) t).trans (shU_at.trans rfl)
      have ht2 : t < nT σ + 1 := eT ▸ ht
      show 1 ≤ ((shS (shU (shU σ 5 (nT σ) x) 6 (nT σ) y) 1 ((σ 1 0) + 1)) 6 t).toInt
      rw [e]
      by_cases q : t = nT σ
      · rw [if_pos q]; exact (b_ed c2).1
      · rw [if_neg q]; exact iv_6 h (by omega)
    · have q := iv_t h (k := k) hk
      show tOf σ k < nT (shS (shU (shU σ 5 (nT σ) x) 6 (nT σ) y) 1 ((σ 1 0) + 1))
      rw [eT]
      omega
    · exact iv_r h hz
  · rw [if_neg c1, if_neg c2, if_neg c3]; exact h
theorem inv_setPrice (h : INV σ) (x y : Int32) : INV (m_X2_changePrice σ x y).2 := by
  have ok := changePrice_ok (iv_ok h) x y
  unfold m_X2_changePrice at ok ⊢
  by_cases c1 : f_X2_hasTitle σ x = 0
  · rw [if_pos c1]; exact h
  by_cases c2 : f_X2_isPrice y = 0
  · rw [if_neg c1, if_pos c2]; exact h
  rw [if_neg c1, if_neg c2] at ok ⊢
  exact inv_w h (by omega) (b_price c2) ok
theorem inv_newEdition (h : INV σ) (x : Int32) : INV (m_X2_advanceEdition σ x).2 := by
  have ok := advanceEdition_ok (iv_ok h) x
  unfold m_X2_advanceEdition at ok ⊢
  by_cases c1 : f_X2_hasTitle σ x = 0
  · rw [if_pos c1]; exact h
  by_cases c2 : σ 6 (tn x) < 30
  · rw [if_neg c1, if_pos c2] at ok ⊢
    have t6 := rl_6t (iv_q h) (hasTitle_ok (iv_ok h) c1).1
    have b := b_ed1 (rl_b6 (iv_q h) t6) c2
    refine ⟨⟨ok, bdR_w (f := 6) (iv_q h).2 (bnd_w b (by decide) (by decide))⟩, fun t ht => ?_, fun k hk => iv_t h (k := k) hk, fun z hz => iv_r h hz, iv_s (σ := σ) h⟩
    show 1 ≤ ((shU σ 6 (tn x) (σ 6 (tn x) + 1)) 6 t).toInt
    rw [shU_at]
    by_cases q : t = tn x
    · rw [if_pos q]; exact b.1
    · rw [if_neg q]; exact iv_6 h ht
  · rw [if_neg c1, if_neg c2]; exact h
theorem inv_addCourse (h : INV σ) (x y z : Int32) : INV (m_X2_putCourse σ x y z).2 := by
  have ok := putCourse_ok (iv_ok h) x y z
  unfold m_X2_putCourse at ok ⊢
  by_cases c1 : f_X2_hasTitle σ x = 0
  · rw [if_pos c1]; exact h
  by_cases c2 : f_X2_isEdition y = 0
  · rw [if_neg c1, if_pos c2]; exact h
  by_cases c4 : f_X2_isBetween z 0 200 = 0
  · rw [if_neg c1, if_neg c2, if_pos c4]; exact h
  by_cases c3 : nC σ < 6
  · rw [if_neg c1, if_neg c2, if_neg c4, if_pos c3] at ok ⊢
    refine inv_of h ⟨ok, bdR_s (f := 2) (bdR_w (f := 9) (bdR_w (f := 8) (bdR_w (f := 7) (iv_q h).2 trivial) trivial) (b_stu c4)) (fun _ => trivial)⟩ rfl rfl rfl rfl (fun k q => ⟨q, rfl⟩) (iv_s (σ := σ) h)
  · rw [if_neg c1, if_neg c2, if_neg c4, if_neg c3]; exact h
theorem inv_setCourse (h : INV σ) (x y z : Int32) : INV (m_X2_changeCourse σ x y z).2 := by
  have ok := changeCourse_ok (iv_ok h) x y z
  unfold m_X2_changeCourse at ok ⊢
  by_cases c1 : f_X2_hasCourse σ x = 0
  · rw [if_pos c1]; exact h
  by_cases c2 : f_X2_isEdition y = 0
  · rw [if_neg c1, if_pos c2]; exact h
  by_cases c4 : f_X2_isBetween z 0 200 = 0
  · rw [if_neg c1, if_neg c2, if_pos c4]; exact h
  rw [if_neg c1, if_neg c2, if_neg c4] at ok ⊢
  exact inv_of h ⟨ok, bdR_w (f := 9) (bdR_w (f := 8) (iv_q h).2 trivial) (b_stu c4)⟩ rfl rfl rfl rfl (fun k q => ⟨q, rfl⟩) (iv_s (σ := σ) h)
theorem inv_set (h : INV σ) (x y : Int32) : INV (m_X2_changeSetting σ x y).2 := by
  have ok := changeSetting_ok (iv_ok h) x y
  unfold m_X2_changeSetting at ok ⊢
  by_cases c1 : f_X2_isBetween x 0 3 = 0
  · rw [if_pos c1]; exact h
  by_cases c2 : f_X2_isBetween y (sLow (tn x)) (sHigh (tn x)) = 0
  · rw [if_neg c1, if_pos c2]; exact h
  rw [if_neg c1, if_neg c2] at ok ⊢
  exact inv_w h (by omega) (bs_ok (Nat.lt_succ_of_le (btwN 3 c1 (by decide) rfl (by decide)).1) c2) ok
end KEEP

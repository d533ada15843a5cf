/-! ===== the changes, the same of both ===== -/
def rq (σ : Nat → Nat → Int32) (r : Nat → Int32) : Prop := eqR σ r ∧ whR σ r ∧ bdR σ
theorem rq_w {σ : Nat → Nat → Int32} {r : Nat → Int32} (h : rq σ r) (f i : Nat) (hi : i < lnS f) (hf : f ≠ 3 ∧ f ≠ 13) {v : Int32} (hv : bok f i v) : rq (shU σ f i v) (upd r (plS f i) v) := ⟨eqR_w h.1 f i hi v, whR_w h.2.1 f i hi hf v, bdR_w h.2.2 hv⟩
theorem rq_s {σ : Nat → Nat → Int32} {r : Nat → Int32} (h : rq σ r) (f : Nat) (hf : f < 3) {v : Int32} (hv : ∀ i, bok f i v) : rq (shS σ f v) (upd r (plS f 0) v) := ⟨eqR_s h.1 f (by omega) v, whR_s h.2.1 f hf v, bdR_s h.2.2 hv⟩
theorem rq_go {σ : Nat → Nat → Int32} {r : Nat → Int32} (h : rq σ r) {c : Nat} (hc : c < 60) {v : Int32} (hv : v ≠ 1) (hb : bnd v 0 4) : rq (shU σ 13 c v) (upd (upd (upd r (53 + 6 * c + 3) v) (53 + 6 * c + 4) (-1)) (53 + 6 * c + 5) (-1)) :=
  ⟨eqR_5 (eqR_4 (eqR_w h.1 13 c hc v) c (-1)) c (-1), whR_go h.2.1 c hv, bdR_w h.2.2 hb⟩
theorem rq_13 {σ : Nat → Nat → Int32} {r : Nat → Int32} (h : rq σ r) {c : Nat} (hc : c < 60) {v : Int32} (hv : v ≠ 1) (h1 : σ 13 c ≠ 1) (hb : bnd v 0 4) : rq (shU σ 13 c v) (upd r (53 + 6 * c + 3) v) :=
  ⟨eqR_w h.1 13 c hc v, whR_13 h.2.1 c hv h1, bdR_w h.2.2 hb⟩
theorem rq_rent {σ : Nat → Nat → Int32} {r : Nat → Int32} (h : rq σ r) {c : Nat} (hc : c < 60) {v w : Int32} (hb : bnd w 0 100200) : rq (shU (shU (shU σ 13 c 1) 14 c v) 15 c w) (upd (upd (upd r (53 + 6 * c + 3) 1) (53 + 6 * c + 4) v) (53 + 6 * c + 5) w) :=
  ⟨eqR_5 (eqR_n (eqR_4 (eqR_n (eqR_w h.1 13 c hc 1) 14 c rfl v) c v) 15 c rfl w) c w, whR_rent h.2.1 c v w, bdR_w (f := 15) (bdR_w (f := 14) (bdR_w (f := 13) h.2.2 ⟨by decide, by decide⟩) trivial) hb⟩
theorem rl_q {σ : Nat → Nat → Int32} {r : Nat → Int32} (h : rl σ r) : rq σ r := h.2
/-- a recorded call of both: refused by both, or done by both -/
def recd (σ μ : Nat → Nat → Int32) (w m : MS) : Prop := (w.1 < 0 ∧ m = (w.1, μ) ∧ w.2 = σ) ∨ (0 ≤ w.1 ∧ m.1 = w.1 ∧ rl w.2 (m.2 0) ∧ fr (s_X4_saves μ) m.2)
/-- an order of both -/
def alike (σ : Nat → Nat → Int32) (w : MS) (code : Int32) (op : (Nat → Nat → Int32) → MS) : Prop := (code ≠ 0 ∧ code < 0 ∧ w = (code, σ)) ∨ (code = 0 ∧ 0 ≤ w.1 ∧ ∀ S, rl σ (S 0) → (op S).1 = w.1 ∧ rl w.2 ((op S).2 0) ∧ fr S (op S).2)
section OPS
variable {σ : Nat → Nat → Int32} {μ S : Nat → Nat → Int32}
theorem ok_saves (h : rl σ (μ 0)) (hs : μ 1 0 = nI (mS μ) ∧ mS μ ≤ 5) : okM μ := by
  have hb := okS_b h.1
  refine ⟨⟨?_, ?_⟩, ⟨?_, ?_⟩, ⟨?_, ?_⟩, hs, ?_, fun k hk => ?_, fun k hk h1 => ?_⟩
  · rw [rl_T h, rl_e0 h]; exact okS_1 h.1
  · rw [rl_T h]; exact hb.1
  · rw [rl_C h, rl_e2 h]; exact okS_2 h.1
  · rw [rl_C h]; exact hb.2.1
  · rw [rl_N h, rl_e1 h]; exact okS_3 h.1
  · rw [rl_N h]; exact hb.2.2
  · rw [rl_set6 h, Int32.le_iff_toInt_le]
    have := (rl_b42 h).1
    have z0 : (0 : Int32).toInt = 0 := by decide
    omega
  · rw [rl_N h] at hk
    have k6 := rl_60 h hk
    rw [rl_mt h k6]
    have e := rl_o0 h k6
    have q := okS_t h.1 hk
    exact ⟨(show μ 0 (53 + 6 * k) = σ 10 k from e).trans q.1, q.2⟩
  · rw [rl_N h] at hk
    have k6 := rl_60 h hk
    have e3 : μ 0 (53 + 6 * k + 3) = σ 13 k := rl_o3 h k6
    have h2 : σ 13 k = 1 := e3.symm.trans h1
    have q := okS_r h.1 hk h2
    rw [rl_mr h hk h2]
    exact ⟨(show μ 0 (53 + 6 * k + 4) = σ 14 k from rl_o4 h hk h2).trans q.1, q.2⟩
theorem rl_saves (h : rl σ (μ 0)) (hok : okM μ) : rl σ (s_X4_saves μ 0) := rl_lo h (fun j hj => saves_lo hok hj)
theorem alike_rec {w : MS} {code : Int32} {op : (Nat → Nat → Int32) → MS} (h : rl σ (μ 0)) (hok : okM μ) (ha : alike σ w code op) : recd σ μ w (if code = 0 then ((op (s_X4_saves μ)).1, (op (s_X4_saves μ)).2) else (code, μ)) := by
  rcases ha with ⟨h0, h1, h2⟩ | ⟨h0, h1, h2⟩
  · rw [if_neg h0, h2]; exact Or.inl ⟨h1, rfl, rfl⟩
  · rw [if_pos h0]
    obtain ⟨a, b, c⟩ := h2 _ (rl_saves h hok)
    exact Or.inr ⟨h1, a, b, c⟩
theorem m2 : (-2 : Int32) ≠ 0 ∧ (-2 : Int32) < 0 := by decide
theorem m3 : (-3 : Int32) ≠ 0 ∧ (-3 : Int32) < 0 := by decide
theorem m4 : (-4 : Int32) ≠ 0 ∧ (-4 : Int32) < 0 := by decide
theorem m5 : (-5 : Int32) ≠ 0 ∧ (-5 : Int32) < 0 := by decide
theorem b_nn {x : Int32} {a b : Int} (h : bnd x a b) (ha : 0 ≤ a) : 0 ≤ x := by
  rw [Int32.le_iff_toInt_le]
  exact Int.le_trans (Int.le_trans (by decide) ha) h.1
theorem b_nI {n : Nat} (h : n < 1000) : bnd (nI n) n n := by
  have e := nI_toInt (n := n) (by omega)
  exact ⟨by rw [e]; exact Int.le_refl _, by rw [e]; exact Int.le_refl _⟩
theorem pred_1 (x : Int32) : x + 1 - 1 = x := by rw [Int32.sub_eq_add_neg, Int32.add_assoc, Int32.add_right_neg, Int32.add_zero]
theorem f_lt {x : Int32} {n m : Nat} (hx : x = nI n) (hn : n ≤ m) (hm : m < 1000) : (x = nI m) = ¬ (n < m) := by
  rw [hx, nI_eq (by omega) (by omega)]
  exact propext ⟨fun q => by omega, fun q => by omega⟩
/-! titles -/
theorem r_addTitle (h : rl σ (μ 0)) (hok : okM μ) (x y : Int32) : recd σ μ (m_X2_putTitle σ x y) (m_X4_addTitle μ x y) := by
  unfold m_X2_putTitle m_X4_addTitle f_X2_isPrice f_X2_isEdition
  rw [e_in, e_in, rl_e0 h]
  by_cases c : f_X2_isBetween x 100 20000 = 0
  · rw [if_pos c, if_pos c]; exact Or.inl ⟨m3.2, rfl, rfl⟩
  rw [if_neg c, if_neg c]
  by_cases d : f_X2_isBetween y 1 30 = 0
  · rw [if_pos d, if_pos d]; exact Or.inl ⟨m3.2, rfl, rfl⟩
  rw [if_neg d, if_neg d]
  have hT := (okS_b h.1).1
  by_cases e : nT σ < 6
  · have n1 : ¬ σ 1 0 = 6 := by
      rw [show (σ 1 0 = 6) = ¬ (nT σ < 6) from f_lt (okS_1 h.1) hT (by decide)]; exact fun q => q e
    rw [if_pos e, if_neg n1]
    have hS := rl_saves h hok
    have okp : okS (m_X2_putTitle σ x y).2 := putTitle_ok h.1 x y
    unfold m_X2_putTitle f_X2_isPrice f_X2_isEdition at okp
    rw [if_neg c, if_neg d, if_pos e] at okp
    refine Or.inr ⟨?_, ?_, ⟨okp, ?_⟩, ?_⟩
    · show 0 ≤ σ 1 0 + 1 - 1
      rw [pred_1, okS_1 h.1]; exact nI_pos' (by omega)
    · show s_X4_saves μ 0 0 + 1 - 1 = σ 1 0 + 1 - 1
      rw [rl_e0 hS]
    · show rq (shS (shU (shU σ 5 (nT σ) x) 6 (nT σ) y) 1 ((σ 1 0) + 1)) ((shU (shU (shU (s_X4_saves μ) 0 (23 + (2 * (mT (s_X4_saves μ)))) x) 0 ((23 + (2 * (mT (s_X4_saves μ)))) + 1) y) 0 0 (((s_X4_saves μ) 0 0) + 1)) 0)
      rw [u0, u0, u0, rl_T hS, rl_e0 hS]
      exact rq_s (rq_w (rq_w (rl_q hS) 5 (nT σ) e (by decide) (bnd_w (bnd_btw c) (by decide) (by decide))) 6 (nT σ) e (by decide) (bnd_w (bnd_btw d) (by decide) (by decide))) 1 (by decide) (fun _ => trivial)
    · rw [rl_T hS]
      exact fr_w (fr_w (fr_w fr_r (by omega) _) (by omega) _) (by omega) _
  · have n1 : σ 1 0 = 6 := by
      rw [show (σ 1 0 = 6) = ¬ (nT σ < 6) from f_lt (okS_1 h.1) hT (by decide)]; exact e
    rw [if_neg e, if_pos n1]; exact Or.inl ⟨m5.2, rfl, rfl⟩
theorem r_setPrice (h : rl σ (μ 0)) (hok : okM μ) (x y : Int32) : recd σ μ (m_X2_changePrice σ x y) (m_X4_setPrice μ x y) := by
  have okp : okS (m_X2_changePrice σ x y).2 := changePrice_ok h.1 x y
  unfold m_X2_changePrice f_X2_isPrice at okp
  unfold m_X2_changePrice m_X4_setPrice f_X2_isPrice
  rw [e_in, e_isT h]
  by_cases c : f_X2_hasTitle σ x = 0
  · rw [if_pos c, if_pos c]; exact Or.inl ⟨m2.2, rfl, rfl⟩
  rw [if_neg c] at okp
  rw [if_neg c, if_neg c]
  by_cases d : f_X2_isBetween y 100 20000 = 0
  · rw [if_pos d, if_pos d]; exact Or.inl ⟨m3.2, rfl, rfl⟩
  rw [if_neg d] at okp
  rw [if_neg d, if_neg d]
  have hS := rl_saves h hok
  obtain ⟨t1, t2⟩ := hasTitle_ok h.1 c
  have t6 := rl_6t h t1
  refine Or.inr ⟨b_nn (rl_b5 h (tn x)) (by decide), rl_price hS t6, ⟨okp, ?_⟩, fr_w fr_r (by omega) _⟩
  show rq (shU σ 5 (tn x) y) ((shU (s_X4_saves μ) 0 (23 + (2 * (tn x))) y) 0)
  rw [u0]
  exact rq_w (rl_q hS) 5 (tn x) t6 (by decide) (bnd_w (bnd_btw d) (by decide) (by decide))
theorem ed_30 {e : Int32} (he : bnd e 0 30) : (e = 30) = ¬ (e < 30) := by
  have z : (30 : Int32).toInt = 30 := by decide
  have a := he.1
  have b := he.2
  rw [Int32.lt_iff_toInt_lt, ← Int32.toInt_inj, z]
  exact propext ⟨fun q => by omega, fun q => by omega⟩
theorem b_ed1 {e : Int32} (he : bnd e 0 30) (h : e < 30) : bnd (e + 1) 1 30 := by
  have z : (30 : Int32).toInt = 30 := by decide
  have o : (1 : Int32).toInt = 1 := by decide
  rw [Int32.lt_iff_toInt_lt, z] at h
  have a := he.1
  have q := i_add (a := e) (b := 1) (by omega) (by omega) (by omega) (by omega)
  exact ⟨by omega, by omega⟩
theorem r_newEdition (h : rl σ (μ 0)) (hok : okM μ) (x : Int32) : recd σ μ (m_X2_advanceEdition σ x) (m_X4_newEdition μ x) := by
  have okp : okS (m_X2_advanceEdition σ x).2 := advanceEdition_ok h.1 x
  unfold m_X2_advanceEdition at okp
  unfold m_X2_advanceEdition m_X4_newEdition
  rw [e_isT h]
  by_cases c : f_X2_hasTitle σ x = 0
  · rw [if_pos c, if_pos c]; exact Or.inl ⟨m2.2, rfl, rfl⟩
  rw [if_neg c] at okp
  rw [if_neg c, if_neg c]
  have hS := rl_saves h hok
  obtain ⟨t1, t2⟩ := hasTitle_ok h.1 c
  have t6 := rl_6t h t1
  have e30 := ed_30 (rl_b6 h t6)
  rw [rl_cur h t6]
  by_cases d : σ 6 (tn x) < 30
  · rw [if_pos d] at okp
    rw [if_pos d, if_neg (by rw [e30]; exact fun q => q d)]
    have eS : s_X4_saves μ 0 (23 + 2 * tn x + 1) = σ 6 (tn x) := rl_cur hS t6
    have b1 := b_ed1 (rl_b6 h t6) d
    rw [eS]
    refine Or.inr ⟨b_nn b1 (by decide), (show shU (s_X4_saves μ) 0 (23 + 2 * tn x + 1) (σ 6 (tn x) + 1) 0 (23 + 2 * tn x + 1) = _ from shU_eq), ⟨okp, ?_⟩, fr_w fr_r (by omega) _⟩
    show rq (shU σ 6 (tn x) (σ 6 (tn x) + 1)) ((shU (s_X4_saves μ) 0 (23 + (2 * (tn x)) + 1) (σ 6 (tn x) + 1)) 0)
    rw [u0]
    exact rq_w (rl_q hS) 6 (tn x) t6 (by decide) (bnd_w b1 (by decide) (by decide))
  · rw [if_neg d, if_pos (by rw [e30]; exact d)]; exact Or.inl ⟨m5.2, rfl, rfl⟩
/-! courses -/
theorem e_crs (y z : Int32) : (f_X4_isCourseLike y z = 0) = (f_X2_isBetween y 1 30 = 0 ∨ f_X2_isBetween z 0 200 = 0) := by
  unfold f_X4_isCourseLike
  rw [e_in, e_in]
  by_cases c : f_X2_isBetween y 1 30 = 0
  · simp [c]
  · by_cases d : f_X2_isBetween z 0 200 = 0 <;> simp [c, d]
theorem r_addCourse (h : rl σ (μ 0)) (hok : okM μ) (x y z : Int32) : recd σ μ (m_X2_putCourse σ x y z) (m_X4_addCourse μ x y z) := by
  have okp : okS (m_X2_putCourse σ x y z).2 := putCourse_ok h.1 x y z
  unfold m_X2_putCourse f_X2_isEdition at okp
  unfold m_X2_putCourse m_X4_addCourse f_X2_isEdition
  simp only [e_crs]
  rw [e_isT h, rl_e2 h]
  by_cases c : f_X2_hasTitle σ x = 0
  · rw [if_pos c, if_pos c]; exact Or.inl ⟨m2.2, rfl, rfl⟩
  rw [if_neg c] at okp
  rw [if_neg c, if_neg c]
  by_cases d : f_X2_isBetween y 1 30 = 0
  · rw [if_pos d, if_pos (Or.inl d)]; exact Or.inl ⟨m3.2, rfl, rfl⟩
  rw [if_neg d] at okp
  rw [if_neg d]
  by_cases e : f_X2_isBetween z 0 200 = 0
  · rw [if_pos e, if_pos (Or.inr e)]; exact Or.inl ⟨m3.2, rfl, rfl⟩
  rw [if_neg e] at okp
  have de : ¬ (f_X2_isBetween y 1 30 = 0 ∨ f_X2_isBetween z 0 200 = 0) := fun q => q.elim d e
  rw [if_neg e, if_neg de]
  have hC := (okS_b h.1).2.1
  by_cases f : nC σ < 6
  · have n1 : ¬ σ 2 0 = 6 := by
      rw [show (σ 2 0 = 6) = ¬ (nC σ < 6) from f_lt (okS_2 h.1) hC (by decide)]; exact fun q => q f
    rw [if_pos f] at okp
    rw [if_pos f, if_neg n1]
    have hS := rl_saves h hok
    refine Or.inr ⟨?_, ?_, ⟨okp, ?_⟩, ?_⟩
    · show 0 ≤ σ 2 0 + 1 - 1
      rw [pred_1, okS_2 h.1]; exact nI_pos' (by omega)
    · show s_X4_saves μ 0 2 + 1 - 1 = σ 2 0 + 1 - 1
      rw [rl_e2 hS]
    · show rq (shS (shU (shU (shU σ 7 (nC σ) x) 8 (nC σ) y) 9 (nC σ) z) 2 ((σ 2 0) + 1)) ((shU (shU (shU (shU (s_X4_saves μ) 0 (35 + (3 * (mC (s_X4_saves μ)))) x) 0 ((35 + (3 * (mC (s_X4_saves μ)))) + 1) y) 0 ((35 + (3 * (mC (s_X4_saves μ)))) + 2) z) 0 2 (((s_X4_saves μ) 0 2) + 1)) 0)
      rw [u0, u0, u0, u0, rl_C hS, rl_e2 hS]
      exact rq_s (rq_w (rq_w (rq_w (rl_q hS) 7 (nC σ) f (by decide) trivial) 8 (nC σ) f (by decide) trivial) 9 (nC σ) f (by decide) (bnd_w (bnd_btw e) (by decide) (by decide))) 2 (by decide) (fun _ => trivial)
    · rw [rl_C hS]
      exact fr_w (fr_w (fr_w (fr_w fr_r (by omega) _) (by omega) _) (by omega) _) (by omega) _
  · have n1 : σ 2 0 = 6 := by
      rw [show (σ 2 0 = 6) = ¬ (nC σ < 6) from f_lt (okS_2 h.1) hC (by decide)]; exact f
    rw [if_neg f, if_pos n1]; exact Or.inl ⟨m5.2, rfl, rfl⟩
theorem r_setCourse (h : rl σ (μ 0)) (hok : okM μ) (x y z : Int32) : recd σ μ (m_X2_changeCourse σ x y z) (m_X4_setCourse μ x y z) := by
  have okp : okS (m_X2_changeCourse σ x y z).2 := changeCourse_ok h.1 x y z
  unfold m_X2_changeCourse f_X2_isEdition at okp
  unfold m_X2_changeCourse m_X4_setCourse f_X2_isEdition
  simp only [e_crs]
  rw [e_isC h]
  by_cases c : f_X2_hasCourse σ x = 0
  · rw [if_pos c, if_pos c]; exact Or.inl ⟨m2.2, rfl, rfl⟩
  rw [if_neg c] at okp
  rw [if_neg c, if_neg c]
  by_cases d : f_X2_isBetween y 1 30 = 0
  · rw [if_pos d, if_pos (Or.inl d)]; exact Or.inl ⟨m3.2, rfl, rfl⟩
  rw [if_neg d] at okp
  rw [if_neg d]
  by_cases e : f_X2_isBetween z 0 200 = 0
  · rw [if_pos e, if_pos (Or.inr e)]; exact Or.inl ⟨m3.2, rfl, rfl⟩
  rw [if_neg e] at okp
  have de : ¬ (f_X2_isBetween y 1 30 = 0 ∨ f_X2_isBetween z 0 200 = 0) := fun q => q.elim d e
  rw [if_neg e, if_neg de]
  have hS := rl_saves h hok
  obtain ⟨t1, t2⟩ := hasCourse_ok h.1 c
  have t6 := rl_6 h t1
  refine Or.inr ⟨b_nn (rl_b9 h t6) (by decide), rl_c2 hS t6, ⟨okp, ?_⟩, fr_w (fr_w fr_r (by omega) _) (by omega) _⟩
  show rq (shU (shU σ 8 (tn x) y) 9 (tn x) z) ((shU (shU (s_X4_saves μ) 0 ((35 + (3 * (tn x))) + 1) y) 0 ((35 + (3 * (tn x))) + 2) z) 0)
  rw [u0, u0]
  exact rq_w (rq_w (rl_q hS) 8 (tn x) t6 (by decide) trivial) 9 (tn x) t6 (by decide) (bnd_w (bnd_btw e) (by decide) (by decide))
theorem bs_ok {i : Nat} (hi : i < 4) {v : Int32} (h : ¬ f_X2_isBetween v (sLow i) (sHigh i) = 0) : bok 4 i v := by
  have q := bnd_btw h
  match i, hi with
  | 0, _ => exact ⟨fun _ => bnd_w q (by decide) (by decide), fun e => absurd e (by decide), fun e => absurd e (by decide), fun e => absurd e (by decide)⟩
  | 1, _ => exact ⟨fun e => absurd e (by decide), fun _ => bnd_w q (by decide) (by decide), fun e => absurd e (by decide), fun e => absurd e (by decide)⟩
  | 2, _ => exact ⟨fun e => absurd e (by decide), fun e => absurd e (by decide), fun _ => bnd_w q (by decide) (by decide), fun e => absurd e (by decide)⟩
  | 3, _ => exact ⟨fun e => absurd e (by decide), fun e => absurd e (by decide), fun e => absurd e (by decide), fun _ => bnd_w q (by decide) (by decide)⟩
theorem b_set {r : Nat → Int32} (h : rl σ r) {i : Nat} (hi : i < 4) : bnd (σ 4 i) 0 200 := by
  match i, hi with
  | 0, _ => exact rl_b40 h
  | 1, _ => exact rl_b41 h
  | 2, _ => exact bnd_w (rl_b42 h) (by decide) (by decide)
  | 3, _ => exact bnd_w (rl_b43 h) (by decide) (by decide)
theorem r_set (h : rl σ (μ 0)) (hok : okM μ) (h2 : μ 2 = mo0 2) (h3 : μ 3 = mo0 3) (x y : Int32) : recd σ μ (m_X2_changeSetting σ x y) (m_X4_set μ x y) := by
  have okp : okS (m_X2_changeSetting σ x y).2 := changeSetting_ok h.1 x y
  unfold m_X2_changeSetting at okp
  unfold m_X2_changeSetting m_X4_set
  rw [e_in]
  by_cases c : f_X2_isBetween x 0 3 = 0
  · rw [if_pos c, if_pos c]; exact Or.inl ⟨m2.2, rfl, rfl⟩
  rw [if_neg c] at okp
  rw [if_neg c, if_neg c, e_in]
  obtain ⟨x1, x2⟩ := sw_lt 3 (by omega) c
  have x4 : tn x < 4 := by omega
  have eL : μ 2 (tn x) = sLow (tn x) := by
    rw [h2]
    generalize tn x = i at x4
    match i, x4 with
    | 0, _ => rfl
    | 1, _ => rfl
    | 2, _ => rfl
    | 3, _ => rfl
  have eH : μ 3 (tn x) = sHigh (tn x) := by
    rw [h3]
    generalize tn x = i at x4
    match i, x4 with
    | 0, _ => rfl
    | 1, _ => rfl
    | 2, _ => rfl
    | 3, _ => rfl
  rw [eL, eH]
  by_cases d : f_X2_isBetween y (sLow (tn x)) (sHigh (tn x)) = 0
  · rw [if_pos d, if_pos d]; exact Or.inl ⟨m3.2, rfl, rfl⟩
  rw [if_neg d] at okp
  rw [if_neg d, if_neg d]
  have hS := rl_saves h hok
  refine Or.inr ⟨b_nn (b_set h x4) (by decide), rl_set hS x4, ⟨okp, ?_⟩, fr_w fr_r (by omega) _⟩
  show rq (shU σ 4 (tn x) y) ((shU (s_X4_saves μ) 0 (4 + (tn x)) y) 0)
  rw [u0]
  exact rq_w (rl_q hS) 4 (tn x) x4 (by decide) (bs_ok x4 d)
end OPS

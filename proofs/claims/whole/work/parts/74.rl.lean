/-! ===== what is written, the same of both ===== -/
theorem plS_lt {f i : Nat} (h : i < lnS f) : plS f i < 413 := by
  unfold plS; unfold lnS at h
  split at h <;> first | omega | (simp only; omega)
section PL
variable {σ : Nat → Nat → Int32} {r : Nat → Int32}
theorem plS_ne4 {f i k : Nat} (h : i < lnS f) : plS f i ≠ 53 + 6 * k + 4 := by
  unfold plS; unfold lnS at h
  split at h <;> first | omega | (simp only; omega)
theorem plS_ne5 {f i k : Nat} (h : i < lnS f) : plS f i ≠ 53 + 6 * k + 5 := by
  unfold plS; unfold lnS at h
  split at h <;> first | omega | (simp only; omega)
theorem plS_inj {f i g j : Nat} (h1 : i < lnS f) (h2 : j < lnS g) (e : plS f i = plS g j) : f = g ∧ i = j := by
  unfold plS at e; unfold lnS at h1 h2
  split at h1 <;> split at h2 <;> simp only at e <;> first | (constructor <;> omega) | (exfalso; omega)
end PL
section WR
variable {σ : Nat → Nat → Int32} {r : Nat → Int32}
theorem up_us {f : Nat → Int32} {k : Nat} {x : Int32} : upd f k x k = x := if_pos rfl
theorem up_un {f : Nat → Int32} {k j : Nat} {x : Int32} (h : j ≠ k) : upd f k x j = f j := if_neg h
theorem eqR_w (h : eqR σ r) (f i : Nat) (hi : i < lnS f) (v : Int32) : eqR (shU σ f i v) (upd r (plS f i) v) := by
  intro g j hj
  by_cases c : g = f
  · subst c
    by_cases d : j = i
    · subst d; rw [shU_eq]; exact up_us
    · rw [shU_ne d, up_un (fun e => d (plS_inj hj hi e).2)]; exact h g j hj
  · rw [shU_f c, up_un (fun e => c (plS_inj hj hi e).1)]; exact h g j hj
theorem eqR_s (h : eqR σ r) (f : Nat) (hf : f < 4) (v : Int32) : eqR (shS σ f v) (upd r (plS f 0) v) := by
  have hl : lnS f = 1 := by
    match f, hf with
    | 0, _ => rfl
    | 1, _ => rfl
    | 2, _ => rfl
    | 3, _ => rfl
  intro g j hj
  by_cases c : g = f
  · subst c
    have d : j = 0 := by omega
    subst d
    rw [shS_eq]; exact up_us
  · rw [shS_f c, up_un (fun e => c (plS_inj hj (by omega) e).1)]; exact h g j hj
theorem eqR_4 (h : eqR σ r) (k : Nat) (v : Int32) : eqR σ (upd r (53 + 6 * k + 4) v) := fun g j hj => by rw [up_un (plS_ne4 hj)]; exact h g j hj
theorem eqR_5 (h : eqR σ r) (k : Nat) (v : Int32) : eqR σ (upd r (53 + 6 * k + 5) v) := fun g j hj => by rw [up_un (plS_ne5 hj)]; exact h g j hj
theorem eqR_n (h : eqR σ r) (f i : Nat) (hf : lnS f = 0) (v : Int32) : eqR (shU σ f i v) r := fun g j hj => by
  rw [shU_f (fun e => by rw [e, hf] at hj; omega)]; exact h g j hj
theorem bdR_w (h : bdR σ) {f i : Nat} {v : Int32} (hv : bok f i v) : bdR (shU σ f i v) := by
  intro g j
  by_cases c : g = f
  · subst c
    by_cases d : j = i
    · subst d; rw [shU_eq]; exact hv
    · rw [shU_ne d]; exact h g j
  · rw [shU_f c]; exact h g j
theorem bdR_s (h : bdR σ) {f : Nat} {v : Int32} (hv : ∀ i, bok f i v) : bdR (shS σ f v) := by
  intro g j
  by_cases c : g = f
  · subst c; rw [shS_eq]; exact hv j
  · rw [shS_f c]; exact h g j
/-- the who and due places of a row -/
theorem whR_eq {σ' : Nat → Nat → Int32} {r' : Nat → Int32} (h : whR σ r) (e3 : σ' 3 = σ 3) (e13 : σ' 13 = σ 13) (e14 : σ' 14 = σ 14) (e15 : σ' 15 = σ 15) (er : ∀ k, r' (53 + 6 * k + 4) = r (53 + 6 * k + 4) ∧ r' (53 + 6 * k + 5) = r (53 + 6 * k + 5)) : whR σ' r' := by
  unfold whR nN
  rw [e3, e13, e14, e15]
  intro k hk
  rw [(er k).1, (er k).2]
  exact h k hk
theorem whR_w (h : whR σ r) (f i : Nat) (hi : i < lnS f) (hf : f ≠ 3 ∧ f ≠ 13) (v : Int32) : whR (shU σ f i v) (upd r (plS f i) v) := by
  have h14 : f ≠ 14 := fun e => by rw [e] at hi; exact absurd hi (Nat.not_lt_zero _)
  have h15 : f ≠ 15 := fun e => by rw [e] at hi; exact absurd hi (Nat.not_lt_zero _)
  exact whR_eq h (shU_f (Ne.symm hf.1)) (shU_f (Ne.symm hf.2)) (shU_f (Ne.symm h14)) (shU_f (Ne.symm h15)) (fun k => ⟨up_un (Ne.symm (plS_ne4 hi)), up_un (Ne.symm (plS_ne5 hi))⟩)
theorem whR_s (h : whR σ r) (f : Nat) (hf : f < 3) (v : Int32) : whR (shS σ f v) (upd r (plS f 0) v) := by
  have hl : 0 < lnS f := by
    match f, hf with
    | 0, _ => decide
    | 1, _ => decide
    | 2, _ => decide
  exact whR_eq h (shS_f (by omega)) (shS_f (by omega)) (shS_f (by omega)) (shS_f (by omega)) (fun k => ⟨up_un (Ne.symm (plS_ne4 hl)), up_un (Ne.symm (plS_ne5 hl))⟩)
/-- a copy goes: it is not rented any more -/
theorem whR_go (h : whR σ r) (c : Nat) {v : Int32} (hv : v ≠ 1) : whR (shU σ 13 c v) (upd (upd (upd r (53 + 6 * c + 3) v) (53 + 6 * c + 4) (-1)) (53 + 6 * c + 5) (-1)) := by
  intro k hk
  have hk : k < nN σ := hk
  by_cases d : k = c
  · subst d
    rw [shU_eq]
    refine ⟨fun q => absurd q hv, fun _ => ⟨?_, up_us⟩⟩
    rw [up_un (by omega)]; exact up_us
  · rw [shU_ne d, shU_f (by decide), shU_f (by decide)]
    rw [up_un (show 53 + 6 * k + 4 ≠ _ by omega), up_un (show 53 + 6 * k + 4 ≠ _ by omega), up_un (show 53 + 6 * k + 4 ≠ _ by omega), up_un (show 53 + 6 * k + 5 ≠ _ by omega), up_un (show 53 + 6 * k + 5 ≠ _ by omega), up_un (show 53 + 6 * k + 5 ≠ _ by omega)]
    exact h k hk
/-- a copy that is not rented comes into another state in which it is not -/
theorem whR_13 (h : whR σ r) (c : Nat) {v : Int32} (hv : v ≠ 1) (hc : σ 13 c ≠ 1) : whR (shU σ 13 c v) (upd r (53 + 6 * c + 3) v) := by
  intro k hk
  have hk : k < nN σ := hk
  rw [shU_f (f' := 14) (by decide), shU_f (f' := 15) (by decide), up_un (show 53 + 6 * k + 4 ≠ _ by omega), up_un (show 53 + 6 * k + 5 ≠ _ by omega)]
  by_cases d : k = c
  · subst d
    rw [shU_eq]
    exact ⟨fun q => absurd q hv, fun _ => (h k hk).2 hc⟩
  · rw [shU_ne d]; exact h k hk
theorem whR_rent (h : whR σ r) (c : Nat) (v w : Int32) : whR (shU (shU (shU σ 13 c 1) 14 c v) 15 c w) (upd (upd (upd r (53 + 6 * c + 3) 1) (53 + 6 * c + 4) v) (53 + 6 * c + 5) w) := by
  intro k hk
  have hk : k < nN σ := hk
  have e13 : shU (shU (shU σ 13 c 1) 14 c v) 15 c w 13 k = shU σ 13 c 1 13 k := rfl
  have e14 : shU (shU (shU σ 13 c 1) 14 c v) 15 c w 14 k = shU (shU σ 13 c 1) 14 c v 14 k := rfl
  rw [e13, e14]
  by_cases d : k = c
  · subst d
    rw [shU_eq, shU_eq, shU_eq]
    refine ⟨fun _ => ⟨?_, up_us⟩, fun q => absurd rfl q⟩
    rw [up_un (by omega)]; exact up_us
  · rw [shU_ne d, shU_ne d, shU_ne d]
    rw [up_un (show 53 + 6 * k + 4 ≠ _ by omega), up_un (show 53 + 6 * k + 4 ≠ _ by omega), up_un (show 53 + 6 * k + 4 ≠ _ by omega), up_un (show 53 + 6 * k + 5 ≠ _ by omega), up_un (show 53 + 6 * k + 5 ≠ _ by omega), up_un (show 53 + 6 * k + 5 ≠ _ by omega)]
    exact h k hk
theorem rl_lo {r' : Nat → Int32} (h : rl σ r) (e : ∀ j, j < 413 → r' j = r j) : rl σ r' := by
  refine ⟨h.1, fun f i hi => by rw [e _ (plS_lt hi)]; exact h.2.1 f i hi, fun k hk => ?_, h.2.2.2⟩
  have k6 := rl_60 h hk
  rw [e _ (by omega), e _ (by omega)]
  exact h.2.2.1 k hk
end WR
/-- what a change of the model's row leaves as it was -/
def fr (μ μ' : Nat → Nat → Int32) : Prop := (∀ f, f ≠ 0 → μ' f = μ f) ∧ ∀ j, 413 ≤ j → μ' 0 j = μ 0 j
theorem fr_r {μ : Nat → Nat → Int32} : fr μ μ := ⟨fun _ _ => rfl, fun _ _ => rfl⟩
theorem fr_t {μ μ' μ'' : Nat → Nat → Int32} (h : fr μ μ') (h2 : fr μ' μ'') : fr μ μ'' := ⟨fun f hf => (h2.1 f hf).trans (h.1 f hf), fun j hj => (h2.2 j hj).trans (h.2 j hj)⟩
theorem fr_w {μ μ' : Nat → Nat → Int32} (h : fr μ μ') {p : Nat} (hp : p < 413) (v : Int32) : fr μ (shU μ' 0 p v) := fr_t h ⟨fun f hf => shU_f hf, fun j hj => shU_ne (by omega)⟩
theorem u0 {μ : Nat → Nat → Int32} {p : Nat} {v : Int32} : shU μ 0 p v 0 = upd (μ 0) p v := va_up_self _ _ _
theorem shU_cm {σ : Nat → Nat → Int32} {f g i j : Nat} {a b : Int32} (h : f ≠ g) : shU (shU σ f i a) g j b = shU (shU σ g j b) f i a := by
  funext k
  by_cases c : k = g
  · subst c
    rw [shU_f (σ := shU σ k j b) (Ne.symm h)]
    unfold shU va_up
    rw [if_pos rfl, if_pos rfl, if_neg (Ne.symm h)]
  · rw [shU_f (σ := shU σ f i a) c]
    by_cases d : k = f
    · subst d
      unfold shU va_up
      rw [if_pos rfl, if_pos rfl, if_neg h]
    · rw [shU_f d, shU_f d, shU_f c]

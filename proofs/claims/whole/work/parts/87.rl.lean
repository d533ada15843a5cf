/-! ===== what the law keeps holds at its start ===== -/
theorem sh0_at {f i : Nat} (hf : f ≠ 4) : sh0 f i = 0 := by unfold sh0; rw [if_neg hf]
theorem mo0_hi {j : Nat} (h : 8 ≤ j) : mo0 0 j = 0 := by
  show upd (upd (upd (upd (fun _ => 0) 4 100) 5 25) 6 30) 7 20 j = 0
  rw [up_un (by omega), up_un (by omega), up_un (by omega), up_un (by omega)]
theorem bz {l u : Int} (h : l ≤ 0) (h2 : 0 ≤ u) : bnd 0 l u := ⟨h, h2⟩
theorem sh0_bd : bdR sh0 := by
  intro f i
  by_cases c : f = 4
  · subst c
    refine ⟨fun e => ?_, fun e => ?_, fun e => ?_, fun e => ?_⟩ <;> subst e <;> exact ⟨by decide, by decide⟩
  · rw [sh0_at c]
    unfold bok
    split <;> first | trivial | exact bz (by decide) (by decide) | exact absurd rfl c
theorem sh0_eq : eqR sh0 (mo0 0) := by
  intro f i hi
  have z : ∀ g, g ≠ 4 → sh0 g i = 0 := fun g hg => sh0_at hg
  match f, hi with
  | 0, _ => rw [z 0 (by decide)]; rfl
  | 1, _ => rw [z 1 (by decide)]; rfl
  | 2, _ => rw [z 2 (by decide)]; rfl
  | 3, _ => rw [z 3 (by decide)]; rfl
  | 4, hi =>
    match i, hi with
    | 0, _ => rfl
    | 1, _ => rfl
    | 2, _ => rfl
    | 3, _ => rfl
    | i + 4, q => exact absurd q (by show ¬ i + 4 < 4; omega)
  | 5, _ => rw [z 5 (by decide)]; exact mo0_hi (by show 8 ≤ 23 + 2 * i; omega)
  | 6, _ => rw [z 6 (by decide)]; exact mo0_hi (by show 8 ≤ 23 + 2 * i + 1; omega)
  | 7, _ => rw [z 7 (by decide)]; exact mo0_hi (by show 8 ≤ 35 + 3 * i; omega)
  | 8, _ => rw [z 8 (by decide)]; exact mo0_hi (by show 8 ≤ 35 + 3 * i + 1; omega)
  | 9, _ => rw [z 9 (by decide)]; exact mo0_hi (by show 8 ≤ 35 + 3 * i + 2; omega)
  | 10, _ => rw [z 10 (by decide)]; exact mo0_hi (by show 8 ≤ 53 + 6 * i; omega)
  | 11, _ => rw [z 11 (by decide)]; exact mo0_hi (by show 8 ≤ 53 + 6 * i + 1; omega)
  | 12, _ => rw [z 12 (by decide)]; exact mo0_hi (by show 8 ≤ 53 + 6 * i + 2; omega)
  | 13, _ => rw [z 13 (by decide)]; exact mo0_hi (by show 8 ≤ 53 + 6 * i + 3; omega)
  | 14, q => exact absurd q (Nat.not_lt_zero _)
  | 15, q => exact absurd q (Nat.not_lt_zero _)
  | 16, _ => rw [z 16 (by decide)]; exact mo0_hi (by show 8 ≤ 8 + i; omega)
  | 17, _ => rw [z 17 (by decide)]; exact mo0_hi (by show 8 ≤ 15 + i; omega)
  | f + 18, q => exact absurd q (Nat.not_lt_zero _)
theorem sh0_ok : okS sh0 := by
  have t0 : tn 0 = 0 := by decide
  have n : ∀ f : Nat, f ≠ 4 → tn (sh0 f 0) = 0 := fun f hf => by rw [sh0_at hf]; exact t0
  refine ⟨⟨?_, ?_⟩, ⟨?_, ?_⟩, ⟨?_, ?_⟩, fun k hk => ?_, fun k hk => ?_⟩
  · unfold nT; rw [n 1 (by decide)]; exact sh0_at (by decide)
  · unfold nT; rw [n 1 (by decide)]; omega
  · unfold nC; rw [n 2 (by decide)]; exact sh0_at (by decide)
  · unfold nC; rw [n 2 (by decide)]; omega
  · unfold nN; rw [n 3 (by decide)]; exact sh0_at (by decide)
  · unfold nN; rw [n 3 (by decide)]; omega
  · unfold nN at hk; rw [n 3 (by decide)] at hk; omega
  · unfold nN at hk; rw [n 3 (by decide)] at hk; omega
theorem IV_0 : IV (fun _ => sh0) 0 0 tx0 mo0 := by
  have t0 : tn 0 = 0 := by decide
  have n3 : nN sh0 = 0 := by unfold nN; rw [sh0_at (by decide)]; exact t0
  have x0 : ∀ f i : Nat, f ≠ 4 → tx0 f i = 0 := fun f i hf => by unfold tx0; rw [if_neg hf]
  have m0 : ∀ f i : Nat, 3 < f → mo0 f i = 0 := fun f i hf => by unfold mo0; rw [if_neg (by omega), if_neg (by omega), if_neg (by omega)]
  refine ⟨⟨by omega, by omega, ?_, ⟨sh0_ok, sh0_eq, fun k hk => ?_, sh0_bd⟩, fun j hj => by omega, fun _ => sh0_bd, rfl, rfl⟩, ⟨⟨?_, ?_⟩, fun k _ => ?_, ?_, fun k => ?_⟩, ⟨⟨?_, ?_⟩, ⟨?_, ?_⟩, by omega, by omega⟩⟩
  · rfl
  · have hk : k < nN sh0 := hk
    rw [n3] at hk; omega
  · unfold xl; rw [x0 1 0 (by decide), t0]; rfl
  · unfold xl; rw [x0 1 0 (by decide), t0]; omega
  · rw [x0 0 k (by decide), m0 4 k (by decide)]
  · rw [x0 1 0 (by decide), m0 5 0 (by decide)]
  · rw [x0 0 k (by decide)]; exact bz (by decide) (by decide)
  · unfold tl; rw [m0 5 0 (by decide), t0]; rfl
  · unfold tl; rw [m0 5 0 (by decide), t0]; omega
  · unfold ta; rw [m0 6 0 (by decide), t0]; rfl
  · unfold ta; rw [m0 6 0 (by decide), t0]; omega

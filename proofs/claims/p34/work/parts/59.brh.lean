/-! ===== the composite world of a new BookRental ===== -/
def brOrd : List Nat := [300, 1, 4, 5, 6, 7, 8, 9, 10, 11, 12, 13, 14, 15, 16, 17, 200, 201, 21, 24, 25, 26, 27, 28, 29, 30, 31, 32, 33, 34, 35, 36, 37, 41, 44, 45, 46, 47, 48, 49, 50, 51, 52, 53, 54, 55, 56, 57, 61, 64, 65, 66, 67, 68, 69, 70, 71, 72, 73, 74, 75, 76, 77, 81, 84, 85, 86, 87, 88, 89, 90, 91, 92, 93, 94, 95, 96, 97, 101, 104, 105, 106, 107, 108, 109, 110, 111, 112, 113, 114, 115, 116, 117, 121, 124, 125, 126, 127, 128, 129, 130, 131, 132, 133, 134, 135, 136, 137, 210, 211]
theorem brOrd_in : ∀ n ∈ brUsed, n ∈ brOrd := by decide +kernel
theorem brOrd_nd : ∀ i, i < 110 → ∀ j, j < 110 → brOrd.getD i 0 = brOrd.getD j 0 → i = j := by decide +kernel
def ad0 (o : Nat) (x : B0) : Nat → Nat := fun n =>
  if n = 300 then o else if n = 200 then x.2.1.1 else if n = 201 then x.2.1.2.1 else if n = 210 then x.2.2.1 else if n = 211 then x.2.2.2 0
  else if n < 20 then (if n = 1 then x.1.1 else x.1.2 n) else (if n % 20 = 1 then x.2.1.2.2.1 (n / 20 - 1) else x.2.1.2.2.2 (n / 20 - 1) (n % 20))
set_option maxRecDepth 100000 in
theorem ad0_map (cI cR : ClassId) (o : Nat) (x : B0) : (br0W cI cR o x).map (fun z => z.1) = brOrd.map (ad0 o x) := rfl
def rg6 (oo : Nat → Nat) : Nat → Option Nat := (va_up (va_up (va_up (va_up (va_up (va_up (fun _ => none) 0 (some (oo 0))) 1 (some (oo 1))) 2 (some (oo 2))) 3 (some (oo 3))) 4 (some (oo 4))) 5 (some (oo 5)))
theorem arrV_ext {c : ClassId} {N : Nat} {f g : Nat → Value} (h : ∀ j, j < N → f j = g j) : arrV c N f = arrV c N g := by
  have e : (fun j : Fin N => f j.val) = fun j => g j.val := funext fun j => h j.val j.isLt
  unfold arrV
  rw [e]
theorem br0_at {cI cR : ClassId} {o : Nat} {x : B0} {n : Nat} (hn : n ∈ brOrd) : ∃ (i : Nat) (p : Nat × va_E), brOrd[i]? = some n ∧ (br0W cI cR o x)[i]? = some p ∧ p.1 = ad0 o x n := by
  obtain ⟨i, hi⟩ := List.mem_iff_getElem?.mp hn
  have h : ((br0W cI cR o x).map (fun z => z.1))[i]? = (brOrd.map (ad0 o x))[i]? := congrArg (fun l => l[i]?) (ad0_map cI cR o x)
  rw [List.getElem?_map, List.getElem?_map, hi] at h
  cases hp : (br0W cI cR o x)[i]? with
  | none => rw [hp] at h; cases h
  | some p => rw [hp] at h; exact ⟨i, p, hi, hp, Option.some.inj h⟩
theorem ad0_I {A : Nat → Prop} {cI cR : ClassId} {o : Nat} {x : B0} (hD : va_D A (br0W cI cR o x)) : brI (ad0 o x) := by
  intro a ha b hb e
  obtain ⟨i, p, h1, h2, h3⟩ := br0_at (cI := cI) (cR := cR) (o := o) (x := x) (brOrd_in a ha)
  obtain ⟨j, q, g1, g2, g3⟩ := br0_at (cI := cI) (cR := cR) (o := o) (x := x) (brOrd_in b hb)
  have := hD.1 i j p q h2 g2 (by rw [h3, g3, e])
  subst this
  exact Option.some.inj (h1.symm.trans g1)
theorem ad0_A {A : Nat → Prop} {cI cR : ClassId} {o : Nat} {x : B0} (hD : va_D A (br0W cI cR o x)) : ∀ q, brA (ad0 o x) q → A q := by
  intro q ⟨n, hn, e⟩
  obtain ⟨i, p, h1, h2, h3⟩ := br0_at (cI := cI) (cR := cR) (o := o) (x := x) (brOrd_in n hn)
  rw [e, ← h3]
  exact hD.2 i p h2
set_option maxRecDepth 100000 in
theorem ad0_sh {D : va_G} {cI cR : ClassId} {o : Nat} {x : B0} {H : Heap} (hP : va_P D vwCl (br0W cI cR o x) H) : ∀ i, i < 7 → va_P D vwCl (shW cI (so (ad0 o x) i) (sr (ad0 o x) i) sh0) H := by
  intro i hi
  match i, hi with
  | 0, _ => exact hP.sub [1, 2, 3, 4, 5, 6, 7, 8, 9, 10, 11, 12, 13, 14, 15] rfl
  | 1, _ => exact hP.sub [18, 19, 20, 21, 22, 23, 24, 25, 26, 27, 28, 29, 30, 31, 32] rfl
  | 2, _ => exact hP.sub [33, 34, 35, 36, 37, 38, 39, 40, 41, 42, 43, 44, 45, 46, 47] rfl
  | 3, _ => exact hP.sub [48, 49, 50, 51, 52, 53, 54, 55, 56, 57, 58, 59, 60, 61, 62] rfl
  | 4, _ => exact hP.sub [63, 64, 65, 66, 67, 68, 69, 70, 71, 72, 73, 74, 75, 76, 77] rfl
  | 5, _ => exact hP.sub [78, 79, 80, 81, 82, 83, 84, 85, 86, 87, 88, 89, 90, 91, 92] rfl
  | 6, _ => exact hP.sub [93, 94, 95, 96, 97, 98, 99, 100, 101, 102, 103, 104, 105, 106, 107] rfl
  | i + 7, hi => exact absurd hi (by omega)
set_option maxRecDepth 100000 in
theorem ad0_tx {D : va_G} {cI cR : ClassId} {o : Nat} {x : B0} {H : Heap} (hP : va_P D vwCl (br0W cI cR o x) H) : va_P D vwCl (txW cI (ad0 o x 210) (tr (ad0 o x)) tx0) H := hP.sub [108, 109] rfl
set_option maxRecDepth 100000 in
theorem ad0_br {D : va_G} {cI cR : ClassId} {o : Nat} {x : B0} {H : Heap} (hP : va_P D vwCl (br0W cI cR o x) H) : va_P D vwCl (brO (ad0 o x)) H := hP.sub [0] rfl
set_option maxRecDepth 100000 in
theorem ad0_hi {D : va_G} {cI cR : ClassId} {o : Nat} {x : B0} {H : Heap} (hP : va_P D vwCl (br0W cI cR o x) H) : va_P D vwCl (hiW cR (ad0 o x) 0 0) H := by
  have h1 : va_P D vwCl [(ad0 o x 200, .inr (0, [.ref (ad0 o x 201), .int (nI 0), .int (nI 0)]))] H := hP.sub [16] rfl
  intro k q hk
  match k, hk with
  | 0, hk => exact h1 0 q hk
  | 1, hk =>
    cases hk
    have h2 : H[x.2.1.2.1]? = some (vp_cell cR (6, .inr (.inr (.inr (.inr (rg6 x.2.1.2.2.1)))))) := hP 17 _ rfl
    have e3 : arrV cR 6 (fun j => va_rf (rg6 x.2.1.2.2.1 j)) = arrV cR 6 (fun j => va_rf (some (so (ad0 o x) (j + 1)))) := arrV_ext (fun j hj => by
      rcases (show j = 0 ∨ j = 1 ∨ j = 2 ∨ j = 3 ∨ j = 4 ∨ j = 5 by omega) with rfl | rfl | rfl | rfl | rfl | rfl <;> rfl)
    exact h2.trans (congrArg some e3)
  | k + 2, hk => cases hk
theorem ad0_H {D : va_G} {cI cR : ClassId} {o : Nat} {x : B0} {H : Heap} (hP : va_P D vwCl (br0W cI cR o x) H) : brH D cI cR (ad0 o x) (fun _ => sh0) 0 0 tx0 H := ⟨ad0_sh hP, ad0_hi hP, ad0_tx hP, ad0_br hP⟩

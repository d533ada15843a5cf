/-! ===== the law makes its two objects ===== -/
section LST
variable {p : Program} {l : Launch} {e : Env} {R : Room} {s : State} {m : MethodId} {args : Array Value} {below : List Frame} {meth : Method} {c : Code} {Q : State → Prop} {ls : Array Slot} {b : Nat}
theorem moD_any {A : Nat → Prop} {cI : ClassId} {o : Nat} {a : Nat → Nat} {μ : Nat → Nat → Int32} {hh : Int64} (h : va_D A (moW cI o a μ hh)) : moD o a ∧ ∀ q, moA o a q → A q := by
  have h1 : va_D (fun _ => True) (moW cI o a μ hh) := ⟨h.1, fun _ _ _ => trivial⟩
  refine ⟨va_D_fst (ws := moW cI o a μ hh) rfl h1, fun q hq => ?_⟩
  rcases hq with hq | hq | hq | hq | hq
  · rw [hq]; exact h.2 0 _ rfl
  · rw [hq]; exact h.2 1 _ rfl
  · rw [hq]; exact h.2 2 _ rfl
  · rw [hq]; exact h.2 3 _ rfl
  · rw [hq]; exact h.2 4 _ rfl
theorem moA_at {cI : ClassId} {o : Nat} {a : Nat → Nat} {μ : Nat → Nat → Int32} {hh : Int64} {q : Nat} (hq : moA o a q) : ∃ (k : Nat) (x : Nat × va_E), (moW cI o a μ hh)[k]? = some x ∧ x.1 = q := by
  rcases hq with hq | hq | hq | hq | hq
  · exact ⟨0, _, rfl, hq.symm⟩
  · exact ⟨1, _, rfl, hq.symm⟩
  · exact ⟨2, _, rfl, hq.symm⟩
  · exact ⟨3, _, rfl, hq.symm⟩
  · exact ⟨4, _, rfl, hq.symm⟩
theorem app_r2 {ws w2 : va_W} {k : Nat} {x : Nat × va_E} (hk : w2[k]? = some x) : (ws ++ w2)[ws.length + k]? = some x := by
  rw [List.getElem?_append_right (Nat.le_add_right _ _), Nat.add_sub_cancel_left]; exact hk
theorem lw_world {D : va_G} {cI cR : ClassId} {A : Nat → Prop} {H : Heap} {o : Nat} {x : B0} {om : Nat} {am : Nat → Nat} (hP : va_P D vwCl (br0W cI cR o x ++ moW cI om am mo0 0) H) (hD : va_D A (br0W cI cR o x ++ moW cI om am mo0 0)) :
    lwH D cI cR (ad0 o x) om am (fun _ => sh0) 0 0 tx0 mo0 0 H ∧ lwI (ad0 o x) om am A := by
  have hD1 : va_D A (br0W cI cR o x) := ⟨fun i j a b hi hj => hD.1 i j a b (app_l hi) (app_l hj), fun k x hk => hD.2 k x (app_l hk)⟩
  have hD2 : va_D A (moW cI om am mo0 0) := ⟨fun i j a b hi hj e => by have := hD.1 _ _ a b (app_r2 (ws := br0W cI cR o x) hi) (app_r2 hj) e; omega, fun k x hk => hD.2 _ x (app_r2 hk)⟩
  have hm := moD_any hD2
  refine ⟨⟨ad0_H (fun k x hk => hP k x (app_l hk)), fun k x hk => hP _ x (app_r2 hk)⟩, ad0_I hD1, hm.1, fun q hq hq2 => ?_, ad0_A hD1, hm.2⟩
  obtain ⟨n, hn, e⟩ := hq
  obtain ⟨i, y, h1, h2, h3⟩ := br0_at (cI := cI) (cR := cR) (o := o) (x := x) (brOrd_in n hn)
  obtain ⟨k, z, g1, g2⟩ := moA_at (cI := cI) (μ := mo0) (hh := 0) hq2
  have := hD.1 i _ y z (app_l h2) (app_r2 (ws := br0W cI cR o x) g1) (by rw [h3, g2, ← e])
  have := (List.getElem?_eq_some_iff.mp h2).1
  omega
end LST

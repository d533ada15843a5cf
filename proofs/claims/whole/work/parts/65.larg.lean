/-! ===== the law reads its script ===== -/
section LAR
variable {p : Program} {l : Launch} {e : Env} {R : Room} {s : State} {m : MethodId} {args : Array Value} {below : List Frame} {meth : Method} {c : Code} {H : Heap} {locs : List Loc} {cells slots : Nat} {Q : State → Prop} {ls : Array Slot} {rest : List Value} {b L i : Nat} {xs : Nat → Int32} {cc : ByteArray} {pc : Nat} {A : Nat → Prop}
theorem lw_arg (k : Nat) {kv : Int32} (hx : p.tables.exec = Jvm.exec) (hb : c.code = cc) (hX : va_X b L xs s s.heap) (hbl : b < s.heap.size) (hAb : ¬ A b) (hS : va_S A s.heap H locs) (hik : i + k < L) (hL : L ≤ 2048) (hkv : kv = nI k)
    (d3 : decode cc pc = .ok (.iadd, 1)) (d4 : decode cc (pc + 1) = .ok (.iaload, 1))
    (kk : W p l e R s m args below meth c H locs cells slots Q (F0 m (pc + 1 + 1) ls (.int (xs (i + k)) :: rest))) : W p l e R s m args below meth c H locs cells slots Q (F0 m pc ls (.int kv :: .int (nI i) :: .ref b :: rest)) := by
  refine lv_iaddN (x := i) (y := k) hx hb rfl hkv d3 ?_
  refine va_sld hx hb hX hbl hAb hS (i := nI (i + k)) (vp_in_nI hik (by omega)) d4 ?_
  rw [nI_clamp (by omega)]
  exact kk
end LAR

/-! ===== the digests ===== -/
def hN (h : Int64) (x : Int32) : Int64 := 31 * h + x.toInt64
def dg1 (f : Nat → Int32) (n : Nat) : Nat → Nat → Int64 → Int64
  | 0, i, h => h
  | fu + 1, i, h => if n ≤ i then h else dg1 f n fu (i + 1) (hN h (f i))
def dg2 (f : Nat → Nat → Int32) (n k : Nat) : Nat → Nat → Int64 → Int64
  | 0, i, h => h
  | fu + 1, i, h => if n ≤ i then h else dg2 f n k fu (i + 1) (dg1 (f i) k (k + 1) 0 h)
section DG
variable {p : Program} {l : Launch} {e : Env} {R : Room} {s : State} {m : MethodId} {args : Array Value} {below : List Frame} {meth : Method} {c : Code} {H : Heap} {locs : List Loc} {cells slots : Nat} {Q : State → Prop} {cc : ByteArray} {maxL nL : Nat} {ret : Option FieldType} {own : String} {c0 : Cond} {pc : Nat} {ls : Array Slot} {rest st0 : List Value} {H0 : Heap} {D : va_G} {cI : ClassId} {o : Nat} {a : Nat → Nat} {μ : Nat → Nat → Int32} {hh : Int64}
theorem mo_callH {y : MethodName} {bytes : ByteArray} {mL n index : Nat} {rt : Option FieldType} {ws : List Cond} {rm : Room} {As : List Value} {h2 : Int64} (hx : p.tables.exec = Jvm.exec) (hb : c.code = cc) (hml : c.maxLocals = nL) (hown : s.vm.findClass own = some m.cls) (hts : ∀ w ∈ c0 :: W0, w.before args s = true) (hK : va_K D vwCl [(cI, .int)] s) (hP : va_P D vwCl (moW cI o a μ hh) H) (hD : moD o a) (hS : va_S (moA o a) H0 H locs)
    (hM : Met l y ws rm (va_Pc (.ref o :: As) (moM D cI o a μ hh)) (moV D cI o a h2 μ) 0 0 (moA o a)) (cw : CallW R s args own RX4 index y bytes mL rt ws rm 0 0 n)
    (hn : As.length = n) (hsize : ls.size = nL) (hst : st0 = As.reverse ++ .ref o :: rest) (hW : (rest.map fun v => v.category).sum ≤ 8) (d : decode cc pc = .ok (.invokevirtual index, 3)) (hc : cells ≤ R.cells) (hs : slots ≤ R.slots)
    (kk : ∀ (H1 : Heap) (locs1 : List Loc), va_P D vwCl (moW cI o a μ h2) H1 → va_S (moA o a) H0 H1 locs1 → W p l e R s m args below meth c H1 locs1 cells slots Q (F0 m (pc + 3) ls rest)) : W p l e R s m args below meth c H locs cells slots Q (F0 m pc ls st0) := by
  have hr := va_runV (As := As) (rest := rest) (locs := locs) (slots := slots) (below := below) (meth := meth) (p := p) (e := e) ⟨hx, hb, hml, hown, hts⟩ hM cw ⟨mo_blindM, va_recv (ci := 4) (q0 := 0) hK hP rfl rfl, fun U hU hW => ⟨rfl, ⟨by rw [hU]; exact hP, va_K.moved hW.alike hK⟩, hD⟩⟩ (g := F0 m pc ls st0) rfl hn hsize hst (lv_room hW) d ⟨hc, hs⟩
  intro T hT X
  obtain ⟨v1, st₀, t, T', L, h0, X', hL, e1, e2, ⟨hv, hp, hF⟩, st⟩ := hr T hT X
  cases hv
  obtain ⟨t2, a1, b1⟩ := kk T'.heap (locs ++ L) (by rw [e1]; exact hp.1) ⟨Nat.le_trans hS.1 (by rw [e1, ← h0]; exact hF.1), fun q h1 h2 => by rw [e1, hF.2 q (by rw [h0]; exact Nat.lt_of_lt_of_le h1 hS.1) h2, h0]; exact hS.2.1 q h1 h2, fun q hq => by
      rcases List.mem_append.mp hq with h | h
      · exact hS.2.2 q h
      · exact hL q h⟩ T' rfl X'
  exact ⟨t2, st t2 a1, b1⟩
end DG
abbrev rm_X4_note : Room := { frames := 0, cells := 0, slots := 0, locals := 0 }
set_option maxRecDepth 100000 in
theorem c_X4_note (l : Launch) (D : va_G) (cI : ClassId) (o : Nat) (a : Nat → Nat) (μ : Nat → Nat → Int32) (hh : Int64) (x : Int32) :
    Met l yX4_note (Cond.code yX4_note cX4_note 2 (none) :: W0) rm_X4_note (va_Pc [.ref o, .int x] (moM D cI o a μ hh)) (moV D cI o a (hN hh x) μ) 0 0 (moA o a) := by
  refine st_gen (cc := cX4_note) (maxL := 2) (ret := none) (own := RX4) (by decide) rfl (Nat.le_of_ble_eq_true rfl) ?_
  intro p e s m below meth c ls C hPre hl
  obtain ⟨hx, hb, hr, hml, hown, hts, hlk⟩ := C
  obtain ⟨⟨hP, hK⟩, hD⟩ := hPre
  have hS : va_S (moA o a) s.heap s.heap [] := va_S.rf
  have hl : lv_has ls 2 [(0, .ref o), (1, .int x)] := hl
  refine lv_aload_n hx hb dX4_note_0 rfl (lv_at hl 0 rfl) ?_
  refine lv_ldc2 hx hb hown (hts _ (List.mem_cons_of_mem _ mk_X4_236)) dX4_note_1 ?_
  refine lv_aload_n hx hb dX4_note_4 rfl (lv_at hl 0 rfl) ?_
  refine mo_g10 hx hb hts hown hK hP (v := hh) rfl dX4_note_5 ?_
  refine lv_lmul hx hb dX4_note_8 ?_
  refine lv_iload_n hx hb dX4_note_9 rfl (lv_at hl 1 rfl) ?_
  refine lv_i2l (v := x.toInt64) hx hb dX4_note_10 rfl ?_
  refine lv_ladd hx hb dX4_note_11 ?_
  refine mo_p10 hx hb hts hown hK hP hD hS dX4_note_12 (fun H locs hP hS => ?_)
  exact mo_finV hx hb hr hlk hK hP hS rfl dX4_note_15

theorem kV_X4_note {R : Room} {s : State} {args : Array Value} {own : String} {idx : Nat} {c0 : Cond} (hts : ∀ w ∈ c0 :: W0, w.before args s = true) (hl : Cond.methodLink own idx yX4_note ∈ W0) (hR : rm_X4_note.frames + 1 ≤ R.frames ∧ 8 + (2 + 11) + rm_X4_note.locals ≤ R.locals) : CallW R s args own RX4 idx yX4_note cX4_note 2 (none) (Cond.code yX4_note cX4_note 2 (none) :: W0) rm_X4_note 0 0 1 := cwV 1 hts (gdV hl mi_yX4_note ms_yX4_note mini_X4 mc_yX4_note) rfl rfl rfl (by decide +kernel) hR
def mD_1 (μ : Nat → Nat → Int32) : Int64 := dg1 (fun i => f_X4_number μ i) 14 (14 + 1) 0 17
def mD_2 (μ : Nat → Nat → Int32) : Int64 := dg2 (fun i k => f_X4_titleNow μ i k) (mT μ) 7 (mT μ + 1) 0 (mD_1 μ)
def mD_3 (μ : Nat → Nat → Int32) : Int64 := dg2 (fun i k => f_X4_courseNow μ i k) (mC μ) 4 (mC μ + 1) 0 (mD_2 μ)
def mD_4 (μ : Nat → Nat → Int32) : Int64 := dg2 (fun i k => f_X4_copyNow μ i k) (mN μ) 11 (mN μ + 1) 0 (mD_3 μ)
def mD_5 (μ : Nat → Nat → Int32) : Int64 := dg1 (fun i => f_X4_sum μ i) 8 (8 + 1) 0 (mD_4 μ)
def mD_6 (μ : Nat → Nat → Int32) : Int64 := dg2 (fun i k => f_X4_customerNow μ i (nI k)) (8) 3 (8 + 1) 0 (mD_5 μ)
abbrev rm_X4_digest : Room := { frames := 4, cells := 0, slots := 0, locals := 91 }
def moL (D : va_G) (cI : ClassId) (o : Nat) (a : Nat → Nat) (h : Int64) (w : Nat → Nat → Int32) : Array Value → State → Outcome → State → Prop := fun _ st oc t => oc = .returned (some (.long h)) ∧ moP D cI o a w h t ∧ va_F (moA o a) st t
set_option maxRecDepth 100000 in
theorem c_X4_digest (l : Launch) (D : va_G) (cI : ClassId) (o : Nat) (a : Nat → Nat) (μ : Nat → Nat → Int32) (hh : Int64) (hok : okM μ) :
    Met l yX4_digest (Cond.code yX4_digest cX4_digest 3 (some .long) :: W0) rm_X4_digest (va_Pc [.ref o] (moM D cI o a μ hh)) (moL D cI o a (mD_6 μ) μ) 0 0 (moA o a) := by
  refine st_gen (cc := cX4_digest) (maxL := 3) (ret := some .long) (own := RX4) (by decide) rfl (Nat.le_of_ble_eq_true rfl) ?_
  intro p e s m below meth c ls C hPre hl
  obtain ⟨hx, hb, hr, hml, hown, hts, hlk⟩ := C
  obtain ⟨⟨hP, hK⟩, hD⟩ := hPre
  have hS : va_S (moA o a) s.heap s.heap [] := va_S.rf
  have hl : lv_has ls 3 [(0, .ref o)] := hl
  obtain ⟨hT6, hC6, hN6, hS5⟩ := okM_b hok
  have K_215 : ∀ (H : Heap) (locs : List Loc), va_P D vwCl (moW cI o a μ (mD_6 μ)) H → va_S (moA o a) s.heap H locs → ∀ ls, lv_has ls 3 [(0, .ref o)] → W p l e rm_X4_digest s m ([.ref o] : List Value).toArray below meth c H locs 0 0 (MQ below (moL D cI o a (mD_6 μ) μ) ([.ref o] : List Value).toArray s 0 0 (moA o a)) (F0 m 215 ls []) := by
    intro H locs hP hS ls hl
    refine lv_aload_n hx hb dX4_digest_215 rfl (lv_at hl 0 rfl) ?_
    refine mo_g10 hx hb hts hown hK hP (v := mD_6 μ) rfl dX4_digest_216 ?_
    exact W.lret hx hb hr (fun t ht hW => ⟨rfl, ⟨by rw [ht]; exact hP, va_K.moved hW.alike hK⟩, hS.F ht⟩) hS.2.2 dX4_digest_219 hlk
  have K_178 : ∀ (H : Heap) (locs : List Loc), va_P D vwCl (moW cI o a μ (mD_5 μ)) H → va_S (moA o a) s.heap H locs → ∀ ls, lv_has ls 3 [(0, .ref o)] → W p l e rm_X4_digest s m ([.ref o] : List Value).toArray below meth c H locs 0 0 (MQ below (moL D cI o a (mD_6 μ) μ) ([.ref o] : List Value).toArray s 0 0 (moA o a)) (F0 m 178 ls []) := by
    intro H locs hP hS ls hl
    refine lv_iconst (v := 0) hx hb dX4_digest_178 (by decide) ?_
    refine lv_istore_n (lv' := [(1, .int (nI 0)), (0, .ref o)]) hx hb dX4_digest_179 rfl hl (by decide) rfl (fun ls hl => ?_)
    have L_180 : ∀ (fu i : Nat) (h : Int64), 8 - i < fu → i ≤ 8 → dg2 (fun i k => f_X4_customerNow μ i (nI k)) (8) 3 fu i h = mD_6 μ → ∀ (H : Heap) (locs : List Loc), va_P D vwCl (moW cI o a μ h) H → va_S (moA o a) s.heap H locs → ∀ ls, lv_has ls 3 [(0, .ref o), (1, .int (nI i))] → W p l e rm_X4_digest s m ([.ref o] : List Value).toArray below meth c H locs 0 0 (MQ below (moL D cI o a (mD_6 μ) μ) ([.ref o] : List Value).toArray s 0 0 (moA o a)) (F0 m 180 ls []) := by
      intro fu
      induction fu with
      | zero => intro i h hm; exact absurd hm (Nat.not_lt_zero _)
      | succ fu ih =>
        intro i h hm hi hg H locs hP hS ls hl
        rw [dg2] at hg
        refine lv_iload_n hx hb dX4_digest_180 rfl (lv_at hl 1 rfl) ?_
        refine lv_bipush (v := 8) hx hb dX4_digest_181 (by decide) ?_
        refine lv_icmp_geN i (8) hx hb rfl rfl (by omega) (by omega) (tgt := 215) dX4_digest_183 (by decide) (fun c1 => ?_) (fun c1 => ?_)
        · rw [if_pos c1] at hg; exact K_215 H locs (by rw [← hg]; exact hP) hS ls (lv_sub hl [0] rfl)
        rw [if_neg c1] at hg
        refine lv_iconst (v := 0) hx hb dX4_digest_186 (by decide) ?_
        refine lv_istore_n (lv' := [(2, .int (nI 0)), (0, .ref o), (1, .int (nI i))]) hx hb dX4_digest_187 rfl hl (by decide) rfl (fun ls hl => ?_)
        have M_188 : ∀ (fv k : Nat) (h2 : Int64), 3 - k < fv → k ≤ 3 → dg1 ((fun i k => f_X4_customerNow μ i (nI k)) i) 3 fv k h2 = dg1 ((fun i k => f_X4_customerNow μ i (nI k)) i) 3 (3 + 1) 0 h → ∀ (H : Heap) (locs : List Loc), va_P D vwCl (moW cI o a μ h2) H → va_S (moA o a) s.heap H locs → ∀ ls, lv_has ls 3 [(0, .ref o), (1, .int (nI i)), (2, .int (nI k))] → W p l e rm_X4_digest s m ([.ref o] : List Value).toArray below meth c H locs 0 0 (MQ below (moL D cI o a (mD_6 μ) μ) ([.ref o] : List Value).toArray s 0 0 (moA o a)) (F0 m 188 ls []) := by
          intro fv
          induction fv with
          | zero => intro k h2 hm2; exact absurd hm2 (Nat.not_lt_zero _)
          | succ fv ih2 =>
            intro k h2 hm2 hk hg2 H locs hP hS ls hl
            rw [dg1] at hg2
            refine lv_iload_n hx hb dX4_digest_188 rfl (lv_at hl 2 rfl) ?_
            refine lv_iconst (v := 3) hx hb dX4_digest_189 (by decide) ?_
            refine lv_icmp_geN k 3 hx hb rfl rfl (by omega) (by omega) (tgt := 209) dX4_digest_190 (by decide) (fun c2 => ?_) (fun c2 => ?_)
            · rw [if_pos c2] at hg2
              refine lv_iinc (v := nI (i + 1)) (lv' := [(1, .int (nI (i + 1))), (0, .ref o), (2, .int (nI k))]) hx hb dX4_digest_209 hl (k := 1) rfl (nI_c1 _) (by decide) rfl (fun ls hl => ?_)
              refine lv_goto (tgt := 180) hx hb dX4_digest_212 (by decide) ?_
              exact ih (i + 1) h2 (by omega) (by omega) (by rw [hg2]; exact hg) H locs hP hS ls (lv_sub hl [1, 0] rfl)
            rw [if_neg c2] at hg2
            refine lv_aload_n hx hb dX4_digest_193 rfl (lv_at hl 0 rfl) ?_
            refine lv_aload_n hx hb dX4_digest_194 rfl (lv_at hl 0 rfl) ?_
            refine lv_iload_n hx hb dX4_digest_195 rfl (lv_at hl 1 rfl) ?_
            refine lv_iload_n hx hb dX4_digest_196 rfl (lv_at hl 2 rfl) ?_
            refine mo_call (rest := [.ref o]) hx hb hml hown hts hK hP (c_X4_customerNow l D cI o a μ h2 (nI i) i rfl (nI k) hok (by omega)) (kV_X4_customerNow hts ml_X4_180 ⟨(Nat.le_of_ble_eq_true rfl), (Nat.le_of_ble_eq_true rfl)⟩) rfl hl.1 rfl (Nat.le_of_ble_eq_true rfl) dX4_digest_197 (Nat.zero_le _) (Nat.zero_le _) ?_
            refine mo_callH (rest := []) hx hb hml hown hts hK hP hD hS (c_X4_note l D cI o a μ h2 _) (kV_X4_note hts ml_X4_244 ⟨(Nat.le_of_ble_eq_true rfl), (Nat.le_of_ble_eq_true rfl)⟩) rfl hl.1 rfl (Nat.le_of_ble_eq_true rfl) dX4_digest_200 (Nat.zero_le _) (Nat.zero_le _) (fun H locs hP hS => ?_)
            refine lv_iinc (v := nI (k + 1)) (lv' := [(2, .int (nI (k + 1))), (0, .ref o), (1, .int (nI i))]) hx hb dX4_digest_203 hl (k := 2) rfl (nI_c1 _) (by decide) rfl (fun ls hl => ?_)
            refine lv_goto (tgt := 188) hx hb dX4_digest_206 (by decide) ?_
            exact ih2 (k + 1) _ (by omega) (by omega) hg2 H locs hP hS ls (lv_sub hl [1, 2, 0] rfl)
        exact M_188 (3 + 1) 0 h (by omega) (by omega) rfl H locs hP hS ls (lv_sub hl [1, 2, 0] rfl)
    exact L_180 (8 + 1) 0 _ (by omega) (by omega) rfl H locs hP hS ls (lv_sub hl [1, 0] rfl)
  have K_155 : ∀ (H : Heap) (locs : List Loc), va_P D vwCl (moW cI o a μ (mD_4 μ)) H → va_S (moA o a) s.heap H locs → ∀ ls, lv_has ls 3 [(0, .ref o)] → W p l e rm_X4_digest s m ([.ref o] : List Value).toArray below meth c H locs 0 0 (MQ below (moL D cI o a (mD_6 μ) μ) ([.ref o] : List Value).toArray s 0 0 (moA o a)) (F0 m 155 ls []) := by
    intro H locs hP hS ls hl
    refine lv_iconst (v := 0) hx hb dX4_digest_155 (by decide) ?_
    refine lv_istore_n (lv' := [(1, .int (nI 0)), (0, .ref o)]) hx hb dX4_digest_156 rfl hl (by decide) rfl (fun ls hl => ?_)
    have L_157 : ∀ (fu i : Nat) (h : Int64), 8 - i < fu → i ≤ 8 → dg1 (fun i => f_X4_sum μ i) 8 fu i h = mD_5 μ → ∀ (H : Heap) (locs : List Loc), va_P D vwCl (moW cI o a μ h) H → va_S (moA o a) s.heap H locs → ∀ ls, lv_has ls 3 [(0, .ref o), (1, .int (nI i))] → W p l e rm_X4_digest s m ([.ref o] : List Value).toArray below meth c H locs 0 0 (MQ below (moL D cI o a (mD_6 μ) μ) ([.ref o] : List Value).toArray s 0 0 (moA o a)) (F0 m 157 ls []) := by
      intro fu
      induction fu with
      | zero => intro i h hm; exact absurd hm (Nat.not_lt_zero _)
      | succ fu ih =>
        intro i h hm hi hg H locs hP hS ls hl
        rw [dg1] at hg
        refine lv_iload_n hx hb dX4_digest_157 rfl (lv_at hl 1 rfl) ?_
        refine lv_bipush (v := 8) hx hb dX4_digest_158 (by decide) ?_
        refine lv_icmp_geN i (8) hx hb rfl rfl (by omega) (by omega) (tgt := 178) dX4_digest_160 (by decide) (fun c1 => ?_) (fun c1 => ?_)
        · rw [if_pos c1] at hg; exact K_178 H locs (by rw [← hg]; exact hP) hS ls (lv_sub hl [0] rfl)
        rw [if_neg c1] at hg
        refine lv_aload_n hx hb dX4_digest_163 rfl (lv_at hl 0 rfl) ?_
        refine lv_aload_n hx hb dX4_digest_164 rfl (lv_at hl 0 rfl) ?_
        refine lv_iload_n hx hb dX4_digest_165 rfl (lv_at hl 1 rfl) ?_
        refine mo_call (rest := [.ref o]) hx hb hml hown hts hK hP (c_X4_sum l D cI o a μ h (nI i) i rfl (by omega)) (kV_X4_sum hts ml_X4_112 ⟨(Nat.le_of_ble_eq_true rfl), (Nat.le_of_ble_eq_true rfl)⟩) rfl hl.1 rfl (Nat.le_of_ble_eq_true rfl) dX4_digest_166 (Nat.zero_le _) (Nat.zero_le _) ?_
        refine mo_callH (rest := []) hx hb hml hown hts hK hP hD hS (c_X4_note l D cI o a μ h _) (kV_X4_note hts ml_X4_244 ⟨(Nat.le_of_ble_eq_true rfl), (Nat.le_of_ble_eq_true rfl)⟩) rfl hl.1 rfl (Nat.le_of_ble_eq_true rfl) dX4_digest_169 (Nat.zero_le _) (Nat.zero_le _) (fun H locs hP hS => ?_)
        refine lv_iinc (v := nI (i + 1)) (lv' := [(1, .int (nI (i + 1))), (0, .ref o)]) hx hb dX4_digest_172 hl (k := 1) rfl (nI_c1 _) (by decide) rfl (fun ls hl => ?_)
        refine lv_goto (tgt := 157) hx hb dX4_digest_175 (by decide) ?_
        exact ih (i + 1) _ (by omega) (by omega) hg H locs hP hS ls (lv_sub hl [1, 0] rfl)
    exact L_157 (8 + 1) 0 _ (by omega) (by omega) rfl H locs hP hS ls (lv_sub hl [1, 0] rfl)
  have K_113 : ∀ (H : Heap) (locs : List Loc), va_P D vwCl (moW cI o a μ (mD_3 μ)) H → va_S (moA o a) s.heap H locs → ∀ ls, lv_has ls 3 [(0, .ref o)] → W p l e rm_X4_digest s m ([.ref o] : List Value).toArray below meth c H locs 0 0 (MQ below (moL D cI o a (mD_6 μ) μ) ([.ref o] : List Value).toArray s 0 0 (moA o a)) (F0 m 113 ls []) := by
    intro H locs hP hS ls hl
    refine lv_iconst (v := 0) hx hb dX4_digest_113 (by decide) ?_
    refine lv_istore_n (lv' := [(1, .int (nI 0)), (0, .ref o)]) hx hb dX4_digest_114 rfl hl (by decide) rfl (fun ls hl => ?_)
    have L_115 : ∀ (fu i : Nat) (h : Int64), mN μ - i < fu → i ≤ mN μ → dg2 (fun i k => f_X4_copyNow μ i k) (mN μ) 11 fu i h = mD_4 μ → ∀ (H : Heap) (locs : List Loc), va_P D vwCl (moW cI o a μ h) H → va_S (moA o a) s.heap H locs → ∀ ls, lv_has ls 3 [(0, .ref o), (1, .int (nI i))] → W p l e rm_X4_digest s m ([.ref o] : List Value).toArray below meth c H locs 0 0 (MQ below (moL D cI o a (mD_6 μ) μ) ([.ref o] : List Value).toArray s 0 0 (moA o a)) (F0 m 115 ls []) := by
      intro fu
      induction fu with
      | zero => intro i h hm; exact absurd hm (Nat.not_lt_zero _)
      | succ fu ih =>
        intro i h hm hi hg H locs hP hS ls hl
        rw [dg2] at hg
        refine lv_iload_n hx hb dX4_digest_115 rfl (lv_at hl 1 rfl) ?_
        refine lv_aload_n hx hb dX4_digest_116 rfl (lv_at hl 0 rfl) ?_
        refine mo_g0 hx hb hts hown hK hP dX4_digest_117 ?_
        refine lv_iconst (v := 1) hx hb dX4_digest_120 (by decide) ?_
        refine mo_r0 hx hb hK hP (1) rfl (by omega) (v := μ 0 1) rfl dX4_digest_121 ?_
        refine lv_icmp_geN i (mN μ) hx hb rfl (okM_1 hok).1 (by omega) (by omega) (tgt := 155) dX4_digest_122 (by decide) (fun c1 => ?_) (fun c1 => ?_)
        · rw [if_pos c1] at hg; exact K_155 H locs (by rw [← hg]; exact hP) hS ls (lv_sub hl [0] rfl)
        rw [if_neg c1] at hg
        refine lv_iconst (v := 0) hx hb dX4_digest_125 (by decide) ?_
        refine lv_istore_n (lv' := [(2, .int (nI 0)), (0, .ref o), (1, .int (nI i))]) hx hb dX4_digest_126 rfl hl (by decide) rfl (fun ls hl => ?_)
        have M_127 : ∀ (fv k : Nat) (h2 : Int64), 11 - k < fv → k ≤ 11 → dg1 ((fun i k => f_X4_copyNow μ i k) i) 11 fv k h2 = dg1 ((fun i k => f_X4_copyNow μ i k) i) 11 (11 + 1) 0 h → ∀ (H : Heap) (locs : List Loc), va_P D vwCl (moW cI o a μ h2) H → va_S (moA o a) s.heap H locs → ∀ ls, lv_has ls 3 [(0, .ref o), (1, .int (nI i)), (2, .int (nI k))] → W p l e rm_X4_digest s m ([.ref o] : List Value).toArray below meth c H locs 0 0 (MQ below (moL D cI o a (mD_6 μ) μ) ([.ref o] : List Value).toArray s 0 0 (moA o a)) (F0 m 127 ls []) := by
          intro fv
          induction fv with
          | zero => intro k h2 hm2; exact absurd hm2 (Nat.not_lt_zero _)
          | succ fv ih2 =>
            intro k h2 hm2 hk hg2 H locs hP hS ls hl
            rw [dg1] at hg2
            refine lv_iload_n hx hb dX4_digest_127 rfl (lv_at hl 2 rfl) ?_
            refine lv_bipush (v := 11) hx hb dX4_digest_128 (by decide) ?_
            refine lv_icmp_geN k 11 hx hb rfl rfl (by omega) (by omega) (tgt := 149) dX4_digest_130 (by decide) (fun c2 => ?_) (fun c2 => ?_)
            · rw [if_pos c2] at hg2
              refine lv_iinc (v := nI (i + 1)) (lv' := [(1, .int (nI (i + 1))), (0, .ref o), (2, .int (nI k))]) hx hb dX4_digest_149 hl (k := 1) rfl (nI_c1 _) (by decide) rfl (fun ls hl => ?_)
              refine lv_goto (tgt := 115) hx hb dX4_digest_152 (by decide) ?_
              exact ih (i + 1) h2 (by omega) (by omega) (by rw [hg2]; exact hg) H locs hP hS ls (lv_sub hl [1, 0] rfl)
            rw [if_neg c2] at hg2
            refine lv_aload_n hx hb dX4_digest_133 rfl (lv_at hl 0 rfl) ?_
            refine lv_aload_n hx hb dX4_digest_134 rfl (lv_at hl 0 rfl) ?_
            refine lv_iload_n hx hb dX4_digest_135 rfl (lv_at hl 1 rfl) ?_
            refine lv_iload_n hx hb dX4_digest_136 rfl (lv_at hl 2 rfl) ?_
            refine mo_call (rest := [.ref o]) hx hb hml hown hts hK hP (c_X4_copyNow l D cI o a μ h2 (nI i) i rfl (nI k) k rfl hok (by omega) (by omega)) (kV_X4_copyNow hts ml_X4_108 ⟨(Nat.le_of_ble_eq_true rfl), (Nat.le_of_ble_eq_true rfl)⟩) rfl hl.1 rfl (Nat.le_of_ble_eq_true rfl) dX4_digest_137 (Nat.zero_le _) (Nat.zero_le _) ?_
            refine mo_callH (rest := []) hx hb hml hown hts hK hP hD hS (c_X4_note l D cI o a μ h2 _) (kV_X4_note hts ml_X4_244 ⟨(Nat.le_of_ble_eq_true rfl), (Nat.le_of_ble_eq_true rfl)⟩) rfl hl.1 rfl (Nat.le_of_ble_eq_true rfl) dX4_digest_140 (Nat.zero_le _) (Nat.zero_le _) (fun H locs hP hS => ?_)
            refine lv_iinc (v := nI (k + 1)) (lv' := [(2, .int (nI (k + 1))), (0, .ref o), (1, .int (nI i))]) hx hb dX4_digest_143 hl (k := 2) rfl (nI_c1 _) (by decide) rfl (fun ls hl => ?_)
            refine lv_goto (tgt := 127) hx hb dX4_digest_146 (by decide) ?_
            exact ih2 (k + 1) _ (by omega) (by omega) hg2 H locs hP hS ls (lv_sub hl [1, 2, 0] rfl)
        exact M_127 (11 + 1) 0 h (by omega) (by omega) rfl H locs hP hS ls (lv_sub hl [1, 2, 0] rfl)
    exact L_115 (mN μ + 1) 0 _ (by omega) (by omega) rfl H locs hP hS ls (lv_sub hl [1, 0] rfl)
  have K_72 : ∀ (H : Heap) (locs : List Loc), va_P D vwCl (moW cI o a μ (mD_2 μ)) H → va_S (moA o a) s.heap H locs → ∀ ls, lv_has ls 3 [(0, .ref o)] → W p l e rm_X4_digest s m ([.ref o] : List Value).toArray below meth c H locs 0 0 (MQ below (moL D cI o a (mD_6 μ) μ) ([.ref o] : List Value).toArray s 0 0 (moA o a)) (F0 m 72 ls []) := by
    intro H locs hP hS ls hl
    refine lv_iconst (v := 0) hx hb dX4_digest_72 (by decide) ?_
    refine lv_istore_n (lv' := [(1, .int (nI 0)), (0, .ref o)]) hx hb dX4_digest_73 rfl hl (by decide) rfl (fun ls hl => ?_)
    have L_74 : ∀ (fu i : Nat) (h : Int64), mC μ - i < fu → i ≤ mC μ → dg2 (fun i k => f_X4_courseNow μ i k) (mC μ) 4 fu i h = mD_3 μ → ∀ (H : Heap) (locs : List Loc), va_P D vwCl (moW cI o a μ h) H → va_S (moA o a) s.heap H locs → ∀ ls, lv_has ls 3 [(0, .ref o), (1, .int (nI i))] → W p l e rm_X4_digest s m ([.ref o] : List Value).toArray below meth c H locs 0 0 (MQ below (moL D cI o a (mD_6 μ) μ) ([.ref o] : List Value).toArray s 0 0 (moA o a)) (F0 m 74 ls []) := by
      intro fu
      induction fu with
      | zero => intro i h hm; exact absurd hm (Nat.not_lt_zero _)
      | succ fu ih =>
        intro i h hm hi hg H locs hP hS ls hl
        rw [dg2] at hg
        refine lv_iload_n hx hb dX4_digest_74 rfl (lv_at hl 1 rfl) ?_
        refine lv_aload_n hx hb dX4_digest_75 rfl (lv_at hl 0 rfl) ?_
        refine mo_g0 hx hb hts hown hK hP dX4_digest_76 ?_
        refine lv_iconst (v := 2) hx hb dX4_digest_79 (by decide) ?_
        refine mo_r0 hx hb hK hP (2) rfl (by omega) (v := μ 0 2) rfl dX4_digest_80 ?_
        refine lv_icmp_geN i (mC μ) hx hb rfl (okM_2 hok) (by omega) (by omega) (tgt := 113) dX4_digest_81 (by decide) (fun c1 => ?_) (fun c1 => ?_)
        · rw [if_pos c1] at hg; exact K_113 H locs (by rw [← hg]; exact hP) hS ls (lv_sub hl [0] rfl)
        rw [if_neg c1] at hg
        refine lv_iconst (v := 0) hx hb dX4_digest_84 (by decide) ?_
        refine lv_istore_n (lv' := [(2, .int (nI 0)), (0, .ref o), (1, .int (nI i))]) hx hb dX4_digest_85 rfl hl (by decide) rfl (fun ls hl => ?_)
        have M_86 : ∀ (fv k : Nat) (h2 : Int64), 4 - k < fv → k ≤ 4 → dg1 ((fun i k => f_X4_courseNow μ i k) i) 4 fv k h2 = dg1 ((fun i k => f_X4_courseNow μ i k) i) 4 (4 + 1) 0 h → ∀ (H : Heap) (locs : List Loc), va_P D vwCl (moW cI o a μ h2) H → va_S (moA o a) s.heap H locs → ∀ ls, lv_has ls 3 [(0, .ref o), (1, .int (nI i)), (2, .int (nI k))] → W p l e rm_X4_digest s m ([.ref o] : List Value).toArray below meth c H locs 0 0 (MQ below (moL D cI o a (mD_6 μ) μ) ([.ref o] : List Value).toArray s 0 0 (moA o a)) (F0 m 86 ls []) := by
          intro fv
          induction fv with
          | zero => intro k h2 hm2; exact absurd hm2 (Nat.not_lt_zero _)
          | succ fv ih2 =>
            intro k h2 hm2 hk hg2 H locs hP hS ls hl
            rw [dg1] at hg2
            refine lv_iload_n hx hb dX4_digest_86 rfl (lv_at hl 2 rfl) ?_
            refine lv_iconst (v := 4) hx hb dX4_digest_87 (by decide) ?_
            refine lv_icmp_geN k 4 hx hb rfl rfl (by omega) (by omega) (tgt := 107) dX4_digest_88 (by decide) (fun c2 => ?_) (fun c2 => ?_)
            · rw [if_pos c2] at hg2
              refine lv_iinc (v := nI (i + 1)) (lv' := [(1, .int (nI (i + 1))), (0, .ref o), (2, .int (nI k))]) hx hb dX4_digest_107 hl (k := 1) rfl (nI_c1 _) (by decide) rfl (fun ls hl => ?_)
              refine lv_goto (tgt := 74) hx hb dX4_digest_110 (by decide) ?_
              exact ih (i + 1) h2 (by omega) (by omega) (by rw [hg2]; exact hg) H locs hP hS ls (lv_sub hl [1, 0] rfl)
            rw [if_neg c2] at hg2
            refine lv_aload_n hx hb dX4_digest_91 rfl (lv_at hl 0 rfl) ?_
            refine lv_aload_n hx hb dX4_digest_92 rfl (lv_at hl 0 rfl) ?_
            refine lv_iload_n hx hb dX4_digest_93 rfl (lv_at hl 1 rfl) ?_
            refine lv_iload_n hx hb dX4_digest_94 rfl (lv_at hl 2 rfl) ?_
            refine mo_call (rest := [.ref o]) hx hb hml hown hts hK hP (c_X4_courseNow l D cI o a μ h2 (nI i) i rfl (nI k) k rfl hok (by omega) (by omega)) (kV_X4_courseNow hts ml_X4_96 ⟨(Nat.le_of_ble_eq_true rfl), (Nat.le_of_ble_eq_true rfl)⟩) rfl hl.1 rfl (Nat.le_of_ble_eq_true rfl) dX4_digest_95 (Nat.zero_le _) (Nat.zero_le _) ?_
            refine mo_callH (rest := []) hx hb hml hown hts hK hP hD hS (c_X4_note l D cI o a μ h2 _) (kV_X4_note hts ml_X4_244 ⟨(Nat.le_of_ble_eq_true rfl), (Nat.le_of_ble_eq_true rfl)⟩) rfl hl.1 rfl (Nat.le_of_ble_eq_true rfl) dX4_digest_98 (Nat.zero_le _) (Nat.zero_le _) (fun H locs hP hS => ?_)
            refine lv_iinc (v := nI (k + 1)) (lv' := [(2, .int (nI (k + 1))), (0, .ref o), (1, .int (nI i))]) hx hb dX4_digest_101 hl (k := 2) rfl (nI_c1 _) (by decide) rfl (fun ls hl => ?_)
            refine lv_goto (tgt := 86) hx hb dX4_digest_104 (by decide) ?_
            exact ih2 (k + 1) _ (by omega) (by omega) hg2 H locs hP hS ls (lv_sub hl [1, 2, 0] rfl)
        exact M_86 (4 + 1) 0 h (by omega) (by omega) rfl H locs hP hS ls (lv_sub hl [1, 2, 0] rfl)
    exact L_74 (mC μ + 1) 0 _ (by omega) (by omega) rfl H locs hP hS ls (lv_sub hl [1, 0] rfl)
  have K_30 : ∀ (H : Heap) (locs : List Loc), va_P D vwCl (moW cI o a μ (mD_1 μ)) H → va_S (moA o a) s.heap H locs → ∀ ls, lv_has ls 3 [(0, .ref o)] → W p l e rm_X4_digest s m ([.ref o] : List Value).toArray below meth c H locs 0 0 (MQ below (moL D cI o a (mD_6 μ) μ) ([.ref o] : List Value).toArray s 0 0 (moA o a)) (F0 m 30 ls []) := by
    intro H locs hP hS ls hl
    refine lv_iconst (v := 0) hx hb dX4_digest_30 (by decide) ?_
    refine lv_istore_n (lv' := [(1, .int (nI 0)), (0, .ref o)]) hx hb dX4_digest_31 rfl hl (by decide) rfl (fun ls hl => ?_)
    have L_32 : ∀ (fu i : Nat) (h : Int64), mT μ - i < fu → i ≤ mT μ → dg2 (fun i k => f_X4_titleNow μ i k) (mT μ) 7 fu i h = mD_2 μ → ∀ (H : Heap) (locs : List Loc), va_P D vwCl (moW cI o a μ h) H → va_S (moA o a) s.heap H locs → ∀ ls, lv_has ls 3 [(0, .ref o), (1, .int (nI i))] → W p l e rm_X4_digest s m ([.ref o] : List Value).toArray below meth c H locs 0 0 (MQ below (moL D cI o a (mD_6 μ) μ) ([.ref o] : List Value).toArray s 0 0 (moA o a)) (F0 m 32 ls []) := by
      intro fu
      induction fu with
      | zero => intro i h hm; exact absurd hm (Nat.not_lt_zero _)
      | succ fu ih =>
        intro i h hm hi hg H locs hP hS ls hl
        rw [dg2] at hg
        refine lv_iload_n hx hb dX4_digest_32 rfl (lv_at hl 1 rfl) ?_
        refine lv_aload_n hx hb dX4_digest_33 rfl (lv_at hl 0 rfl) ?_
        refine mo_g0 hx hb hts hown hK hP dX4_digest_34 ?_
        refine lv_iconst (v := 0) hx hb dX4_digest_37 (by decide) ?_
        refine mo_r0 hx hb hK hP (0) rfl (by omega) (v := μ 0 0) rfl dX4_digest_38 ?_
        refine lv_icmp_geN i (mT μ) hx hb rfl (okM_0 hok) (by omega) (by omega) (tgt := 72) dX4_digest_39 (by decide) (fun c1 => ?_) (fun c1 => ?_)
        · rw [if_pos c1] at hg; exact K_72 H locs (by rw [← hg]; exact hP) hS ls (lv_sub hl [0] rfl)
        rw [if_neg c1] at hg
        refine lv_iconst (v := 0) hx hb dX4_digest_42 (by decide) ?_
        refine lv_istore_n (lv' := [(2, .int (nI 0)), (0, .ref o), (1, .int (nI i))]) hx hb dX4_digest_43 rfl hl (by decide) rfl (fun ls hl => ?_)
        have M_44 : ∀ (fv k : Nat) (h2 : Int64), 7 - k < fv → k ≤ 7 → dg1 ((fun i k => f_X4_titleNow μ i k) i) 7 fv k h2 = dg1 ((fun i k => f_X4_titleNow μ i k) i) 7 (7 + 1) 0 h → ∀ (H : Heap) (locs : List Loc), va_P D vwCl (moW cI o a μ h2) H → va_S (moA o a) s.heap H locs → ∀ ls, lv_has ls 3 [(0, .ref o), (1, .int (nI i)), (2, .int (nI k))] → W p l e rm_X4_digest s m ([.ref o] : List Value).toArray below meth c H locs 0 0 (MQ below (moL D cI o a (mD_6 μ) μ) ([.ref o] : List Value).toArray s 0 0 (moA o a)) (F0 m 44 ls []) := by
          intro fv
          induction fv with
          | zero => intro k h2 hm2; exact absurd hm2 (Nat.not_lt_zero _)
          | succ fv ih2 =>
            intro k h2 hm2 hk hg2 H locs hP hS ls hl
            rw [dg1] at hg2
            refine lv_iload_n hx hb dX4_digest_44 rfl (lv_at hl 2 rfl) ?_
            refine lv_bipush (v := 7) hx hb dX4_digest_45 (by decide) ?_
            refine lv_icmp_geN k 7 hx hb rfl rfl (by omega) (by omega) (tgt := 66) dX4_digest_47 (by decide) (fun c2 => ?_) (fun c2 => ?_)
            · rw [if_pos c2] at hg2
              refine lv_iinc (v := nI (i + 1)) (lv' := [(1, .int (nI (i + 1))), (0, .ref o), (2, .int (nI k))]) hx hb dX4_digest_66 hl (k := 1) rfl (nI_c1 _) (by decide) rfl (fun ls hl => ?_)
              refine lv_goto (tgt := 32) hx hb dX4_digest_69 (by decide) ?_
              exact ih (i + 1) h2 (by omega) (by omega) (by rw [hg2]; exact hg) H locs hP hS ls (lv_sub hl [1, 0] rfl)
            rw [if_neg c2] at hg2
            refine lv_aload_n hx hb dX4_digest_50 rfl (lv_at hl 0 rfl) ?_
            refine lv_aload_n hx hb dX4_digest_51 rfl (lv_at hl 0 rfl) ?_
            refine lv_iload_n hx hb dX4_digest_52 rfl (lv_at hl 1 rfl) ?_
            refine lv_iload_n hx hb dX4_digest_53 rfl (lv_at hl 2 rfl) ?_
            refine mo_call (rest := [.ref o]) hx hb hml hown hts hK hP (c_X4_titleNow l D cI o a μ h2 (nI i) i rfl (nI k) k rfl hok (by omega) (by omega)) (kV_X4_titleNow hts ml_X4_90 ⟨(Nat.le_of_ble_eq_true rfl), (Nat.le_of_ble_eq_true rfl)⟩) rfl hl.1 rfl (Nat.le_of_ble_eq_true rfl) dX4_digest_54 (Nat.zero_le _) (Nat.zero_le _) ?_
            refine mo_callH (rest := []) hx hb hml hown hts hK hP hD hS (c_X4_note l D cI o a μ h2 _) (kV_X4_note hts ml_X4_244 ⟨(Nat.le_of_ble_eq_true rfl), (Nat.le_of_ble_eq_true rfl)⟩) rfl hl.1 rfl (Nat.le_of_ble_eq_true rfl) dX4_digest_57 (Nat.zero_le _) (Nat.zero_le _) (fun H locs hP hS => ?_)
            refine lv_iinc (v := nI (k + 1)) (lv' := [(2, .int (nI (k + 1))), (0, .ref o), (1, .int (nI i))]) hx hb dX4_digest_60 hl (k := 2) rfl (nI_c1 _) (by decide) rfl (fun ls hl => ?_)
            refine lv_goto (tgt := 44) hx hb dX4_digest_63 (by decide) ?_
            exact ih2 (k + 1) _ (by omega) (by omega) hg2 H locs hP hS ls (lv_sub hl [1, 2, 0] rfl)
        exact M_44 (7 + 1) 0 h (by omega) (by omega) rfl H locs hP hS ls (lv_sub hl [1, 2, 0] rfl)
    exact L_32 (mT μ + 1) 0 _ (by omega) (by omega) rfl H locs hP hS ls (lv_sub hl [1, 0] rfl)
  have K_7 : ∀ (H : Heap) (locs : List Loc), va_P D vwCl (moW cI o a μ 17) H → va_S (moA o a) s.heap H locs → ∀ ls, lv_has ls 3 [(0, .ref o)] → W p l e rm_X4_digest s m ([.ref o] : List Value).toArray below meth c H locs 0 0 (MQ below (moL D cI o a (mD_6 μ) μ) ([.ref o] : List Value).toArray s 0 0 (moA o a)) (F0 m 7 ls []) := by
    intro H locs hP hS ls hl
    refine lv_iconst (v := 0) hx hb dX4_digest_7 (by decide) ?_
    refine lv_istore_n (lv' := [(1, .int (nI 0)), (0, .ref o)]) hx hb dX4_digest_8 rfl hl (by decide) rfl (fun ls hl => ?_)
    have L_9 : ∀ (fu i : Nat) (h : Int64), 14 - i < fu → i ≤ 14 → dg1 (fun i => f_X4_number μ i) 14 fu i h = mD_1 μ → ∀ (H : Heap) (locs : List Loc), va_P D vwCl (moW cI o a μ h) H → va_S (moA o a) s.heap H locs → ∀ ls, lv_has ls 3 [(0, .ref o), (1, .int (nI i))] → W p l e rm_X4_digest s m ([.ref o] : List Value).toArray below meth c H locs 0 0 (MQ below (moL D cI o a (mD_6 μ) μ) ([.ref o] : List Value).toArray s 0 0 (moA o a)) (F0 m 9 ls []) := by
      intro fu
      induction fu with
      | zero => intro i h hm; exact absurd hm (Nat.not_lt_zero _)
      | succ fu ih =>
        intro i h hm hi hg H locs hP hS ls hl
        rw [dg1] at hg
        refine lv_iload_n hx hb dX4_digest_9 rfl (lv_at hl 1 rfl) ?_
        refine lv_bipush (v := 14) hx hb dX4_digest_10 (by decide) ?_
        refine lv_icmp_geN i (14) hx hb rfl rfl (by omega) (by omega) (tgt := 30) dX4_digest_12 (by decide) (fun c1 => ?_) (fun c1 => ?_)
        · rw [if_pos c1] at hg; exact K_30 H locs (by rw [← hg]; exact hP) hS ls (lv_sub hl [0] rfl)
        rw [if_neg c1] at hg
        refine lv_aload_n hx hb dX4_digest_15 rfl (lv_at hl 0 rfl) ?_
        refine lv_aload_n hx hb dX4_digest_16 rfl (lv_at hl 0 rfl) ?_
        refine lv_iload_n hx hb dX4_digest_17 rfl (lv_at hl 1 rfl) ?_
        refine mo_call (rest := [.ref o]) hx hb hml hown hts hK hP (c_X4_number l D cI o a μ h (nI i) i rfl hok (by omega)) (kV_X4_number hts ml_X4_78 ⟨(Nat.le_of_ble_eq_true rfl), (Nat.le_of_ble_eq_true rfl)⟩) rfl hl.1 rfl (Nat.le_of_ble_eq_true rfl) dX4_digest_18 (Nat.zero_le _) (Nat.zero_le _) ?_
        refine mo_callH (rest := []) hx hb hml hown hts hK hP hD hS (c_X4_note l D cI o a μ h _) (kV_X4_note hts ml_X4_244 ⟨(Nat.le_of_ble_eq_true rfl), (Nat.le_of_ble_eq_true rfl)⟩) rfl hl.1 rfl (Nat.le_of_ble_eq_true rfl) dX4_digest_21 (Nat.zero_le _) (Nat.zero_le _) (fun H locs hP hS => ?_)
        refine lv_iinc (v := nI (i + 1)) (lv' := [(1, .int (nI (i + 1))), (0, .ref o)]) hx hb dX4_digest_24 hl (k := 1) rfl (nI_c1 _) (by decide) rfl (fun ls hl => ?_)
        refine lv_goto (tgt := 9) hx hb dX4_digest_27 (by decide) ?_
        exact ih (i + 1) _ (by omega) (by omega) hg H locs hP hS ls (lv_sub hl [1, 0] rfl)
    exact L_9 (14 + 1) 0 _ (by omega) (by omega) rfl H locs hP hS ls (lv_sub hl [1, 0] rfl)
  refine lv_aload_n hx hb dX4_digest_0 rfl (lv_at hl 0 rfl) ?_
  refine lv_ldc2 hx hb hown (hts _ (List.mem_cons_of_mem _ mk_X4_242)) dX4_digest_1 ?_
  refine mo_p10 hx hb hts hown hK hP hD hS dX4_digest_4 (fun H locs hP hS => ?_)
  exact K_7 H locs hP hS ls hl

theorem kV_X4_digest {R : Room} {s : State} {args : Array Value} {own : String} {idx : Nat} {c0 : Cond} (hts : ∀ w ∈ c0 :: W0, w.before args s = true) (hl : Cond.methodLink own idx yX4_digest ∈ W0) (hR : rm_X4_digest.frames + 1 ≤ R.frames ∧ 8 + (3 + 11) + rm_X4_digest.locals ≤ R.locals) : CallW R s args own RX4 idx yX4_digest cX4_digest 3 (some .long) (Cond.code yX4_digest cX4_digest 3 (some .long) :: W0) rm_X4_digest 0 0 0 := cwV 0 hts (gdV hl mi_yX4_digest ms_yX4_digest mini_X4 mc_yX4_digest) rfl rfl rfl (by decide +kernel) hR

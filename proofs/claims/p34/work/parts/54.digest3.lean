/-! ===== BookRental.digest ===== -/
def nE (U : State) : Prop := va_Nw (.fieldLinkNest "BookRental" 146 "BookRental$Shop" "titles" "I" "BookRental") U ∧ va_Nw (.fieldLinkNest "BookRental" 150 "BookRental$Shop" "courses" "I" "BookRental") U ∧ va_Nw (.fieldLinkNest "BookRental" 153 "BookRental$Shop" "copies" "I" "BookRental") U
theorem nE_warm {s U : State} (hW : s.WarmedH U.vm) (h : nE s) : nE U := ⟨va_Nw.warmF hW h.1, va_Nw.warmF hW h.2.1, va_Nw.warmF hW h.2.2⟩
theorem nE_same {u U : State} (hv : u.vm = U.vm) (h : nE u) : nE U := ⟨va_tabs rfl hv h.1, va_tabs rfl hv h.2.1, va_tabs rfl hv h.2.2⟩
def vpL (h : Int64) : Array Value → State → Outcome → State → Prop := fun _ st oc t => oc = .returned (some (.long h)) ∧ t.heap = st.heap
theorem brN_blind {av : List Value} {D : va_G} {cI cR : ClassId} {ad : Nat → Nat} {ρ : Nat → Nat → Nat → Int32} {sp kp : Nat} {τ : Nat → Nat → Int32} : FrameBlind (va_Pc av (fun U => brP D cI cR ad ρ sp kp τ U ∧ nE U)) := fun b U g mk q => ⟨q.1, (br_blind (av := av) b U g mk ⟨q.1, q.2.1⟩).2, nE_same (u := U) (U := U.calling g mk b) rfl q.2.2⟩

def sD_1 (σ : Nat → Nat → Int32) : Int64 := dg1 (fun i => f_X2_numberOf σ (nI i)) 14 (14 + 1) 0 17
def sD_2 (σ : Nat → Nat → Int32) : Int64 := dg2 (fun i k => f_X2_titleProperty σ (nI i) (nI k)) (nT σ) 7 (nT σ + 1) 0 (sD_1 σ)
def sD_3 (σ : Nat → Nat → Int32) : Int64 := dg2 (fun i k => f_X2_courseProperty σ (nI i) (nI k)) (nC σ) 4 (nC σ + 1) 0 (sD_2 σ)
def sD_4 (σ : Nat → Nat → Int32) : Int64 := dg2 (fun i k => f_X2_copyProperty σ (nI i) (nI k)) (nN σ) 11 (nN σ + 1) 0 (sD_3 σ)
def sD_5 (σ : Nat → Nat → Int32) : Int64 := dg1 (fun i => f_X2_sumOf σ (nI i)) 8 (8 + 1) 0 (sD_4 σ)
def sD_6 (σ : Nat → Nat → Int32) : Int64 := dg2 (fun i k => f_X2_customerNumber σ (nI i) (nI k)) (8) 3 (8 + 1) 0 (sD_5 σ)
abbrev rm_X3_digest : Room := { frames := 5, cells := 0, slots := 0, locals := 114 }
set_option maxRecDepth 100000 in
theorem c_X3_digest (l : Launch) (D : va_G) (cI cR : ClassId) (ad : Nat → Nat) (ρ : Nat → Nat → Nat → Int32) (sp kp : Nat) (τ : Nat → Nat → Int32) (hok : okS (ρ 0)) :
    Met l yX3_digest (Cond.code yX3_digest cX3_digest 5 (some .long) :: W0) rm_X3_digest (va_Pc [.ref (ad 300)] (fun U => brP D cI cR ad ρ sp kp τ U ∧ nE U)) (vpL (sD_6 (ρ 0))) 0 0 (fun _ => False) := by
  refine st_gen (cc := cX3_digest) (maxL := 5) (ret := some .long) (own := RX3) (by decide) rfl (Nat.le_of_ble_eq_true rfl) ?_
  intro p e s m below meth c ls C hPre hl
  obtain ⟨hx, hb, hr, hml, hown, hts, hlk⟩ := C
  obtain ⟨⟨hB, hK, hI⟩, hNw⟩ := hPre
  have hP := hB.1 0 (by decide)
  have hl : lv_has ls 5 [(0, .ref (ad 300))] := hl
  obtain ⟨hT6, hC6, hN6⟩ := okS_b hok
  have K_269 : ∀ ls, lv_has ls 5 [(0, .ref (ad 300)), (1, .long (sD_6 (ρ 0)))] → W p l e rm_X3_digest s m ([.ref (ad 300)] : List Value).toArray below meth c s.heap [] 0 0 (MQ below (vpL (sD_6 (ρ 0))) ([.ref (ad 300)] : List Value).toArray s 0 0 (fun _ => False)) (F0 m 269 ls []) := by
    intro ls hl
    refine lv_lload_n hx hb dX3_digest_269 rfl (lv_at hl 1 rfl) ?_
    exact W.lret hx hb hr (fun t ht _ => ⟨rfl, ht⟩) (fun q hq => absurd hq List.not_mem_nil) dX3_digest_270 hlk
  have K_222 : ∀ ls, lv_has ls 5 [(0, .ref (ad 300)), (1, .long (sD_5 (ρ 0)))] → W p l e rm_X3_digest s m ([.ref (ad 300)] : List Value).toArray below meth c s.heap [] 0 0 (MQ below (vpL (sD_6 (ρ 0))) ([.ref (ad 300)] : List Value).toArray s 0 0 (fun _ => False)) (F0 m 222 ls []) := by
    intro ls hl
    refine lv_iconst (v := 0) hx hb dX3_digest_222 (by decide) ?_
    refine lv_istore_n (lv' := [(3, .int (nI 0)), (0, .ref (ad 300)), (1, .long (sD_5 (ρ 0)))]) hx hb dX3_digest_223 rfl hl (by decide) rfl (fun ls hl => ?_)
    have L_224 : ∀ (fu i : Nat) (h : Int64), 8 - i < fu → i ≤ 8 → dg2 (fun i k => f_X2_customerNumber (ρ 0) (nI i) (nI k)) (8) 3 fu i h = sD_6 (ρ 0) → ∀ ls, lv_has ls 5 [(0, .ref (ad 300)), (1, .long h), (3, .int (nI i))] → W p l e rm_X3_digest s m ([.ref (ad 300)] : List Value).toArray below meth c s.heap [] 0 0 (MQ below (vpL (sD_6 (ρ 0))) ([.ref (ad 300)] : List Value).toArray s 0 0 (fun _ => False)) (F0 m 224 ls []) := by
      intro fu
      induction fu with
      | zero => intro i h hm; exact absurd hm (Nat.not_lt_zero _)
      | succ fu ih =>
        intro i h hm hi hg ls hl
        rw [dg2] at hg
        refine lv_iload_n hx hb dX3_digest_224 rfl (lv_at hl 2 rfl) ?_
        refine lv_bipush (v := 8) hx hb dX3_digest_225 (by decide) ?_
        refine lv_icmp_geN i (8) hx hb rfl rfl (by omega) (by omega) (tgt := 269) dX3_digest_227 (by decide) (fun c1 => ?_) (fun c1 => ?_)
        · rw [if_pos (show 8 ≤ i by omega)] at hg; exact K_269 ls (by rw [← hg]; exact lv_sub hl [0, 1] rfl)
        rw [if_neg (show ¬ 8 ≤ i by omega)] at hg
        refine lv_iconst (v := 0) hx hb dX3_digest_230 (by decide) ?_
        refine lv_istore (lv' := [(4, .int (nI 0)), (0, .ref (ad 300)), (1, .long h), (3, .int (nI i))]) hx hb dX3_digest_231 hl (by decide) rfl (fun ls hl => ?_)
        have M_233 : ∀ (fv k : Nat) (h2 : Int64), 3 - k < fv → k ≤ 3 → dg1 ((fun i k => f_X2_customerNumber (ρ 0) (nI i) (nI k)) i) 3 fv k h2 = dg1 ((fun i k => f_X2_customerNumber (ρ 0) (nI i) (nI k)) i) 3 (3 + 1) 0 h → ∀ ls, lv_has ls 5 [(0, .ref (ad 300)), (1, .long h2), (3, .int (nI i)), (4, .int (nI k))] → W p l e rm_X3_digest s m ([.ref (ad 300)] : List Value).toArray below meth c s.heap [] 0 0 (MQ below (vpL (sD_6 (ρ 0))) ([.ref (ad 300)] : List Value).toArray s 0 0 (fun _ => False)) (F0 m 233 ls []) := by
          intro fv
          induction fv with
          | zero => intro k h2 hm2; exact absurd hm2 (Nat.not_lt_zero _)
          | succ fv ih2 =>
            intro k h2 hm2 hk hg2 ls hl
            rw [dg1] at hg2
            refine lv_iload hx hb dX3_digest_233 (lv_at hl 3 rfl) ?_
            refine lv_iconst (v := 2) hx hb dX3_digest_235 (by decide) ?_
            refine lv_icmp_gtN k 2 hx hb rfl rfl (by omega) (by omega) (tgt := 263) dX3_digest_236 (by decide) (fun c2 => ?_) (fun c2 => ?_)
            · rw [if_pos (show 3 ≤ k by omega)] at hg2
              refine lv_iinc (v := nI (i + 1)) (lv' := [(3, .int (nI (i + 1))), (0, .ref (ad 300)), (1, .long h2), (4, .int (nI k))]) hx hb dX3_digest_263 hl (k := 2) rfl (nI_c1 _) (by decide) rfl (fun ls hl => ?_)
              refine lv_goto (tgt := 224) hx hb dX3_digest_266 (by decide) ?_
              exact ih (i + 1) h2 (by omega) (by omega) (by rw [hg2]; exact hg) ls (lv_sub hl [1, 2, 0] rfl)
            rw [if_neg (show ¬ 3 ≤ k by omega)] at hg2
            refine lv_ldc2 hx hb hown (hts _ (List.mem_cons_of_mem _ mk_X3_144)) dX3_digest_239 ?_
            refine lv_lload_n hx hb dX3_digest_242 rfl (lv_at hl 1 rfl) ?_
            refine lv_lmul hx hb dX3_digest_243 ?_
            refine lv_aload_n hx hb dX3_digest_244 rfl (lv_at hl 0 rfl) ?_
            refine br_g0 hx hb hts hown hK hB dX3_digest_245 ?_
            refine lv_iload_n hx hb dX3_digest_248 rfl (lv_at hl 2 rfl) ?_
            refine lv_iload hx hb dX3_digest_249 (lv_at hl 3 rfl) ?_
            refine sh_call (rest := [.long (31 * h2)]) hx hb hml hown hts (brK_1 hK) hP (c_X2_customerNumber l D cI _ _ (ρ 0) (nI i) (nI k) hok) (kV_X2_customerNumber hts ml_X3_103 ⟨(Nat.le_of_ble_eq_true rfl), (Nat.le_of_ble_eq_true rfl)⟩) rfl hl.1 rfl (Nat.le_of_ble_eq_true rfl) dX3_digest_251 (Nat.zero_le _) (Nat.zero_le _) ?_
            refine lv_i2l (v := (f_X2_customerNumber (ρ 0) (nI i) (nI k)).toInt64) hx hb dX3_digest_254 rfl ?_
            refine lv_ladd hx hb dX3_digest_255 ?_
            refine lv_lstore_n (lv' := [(1, .long (hN h2 (f_X2_customerNumber (ρ 0) (nI i) (nI k)))), (0, .ref (ad 300)), (3, .int (nI i)), (4, .int (nI k))]) hx hb dX3_digest_256 rfl hl (by decide) rfl (fun ls hl => ?_)
            refine lv_iinc (v := nI (k + 1)) (lv' := [(4, .int (nI (k + 1))), (1, .long (hN h2 (f_X2_customerNumber (ρ 0) (nI i) (nI k)))), (0, .ref (ad 300)), (3, .int (nI i))]) hx hb dX3_digest_257 hl (k := 3) rfl (nI_c1 _) (by decide) rfl (fun ls hl => ?_)
            refine lv_goto (tgt := 233) hx hb dX3_digest_260 (by decide) ?_
            exact ih2 (k + 1) _ (by omega) (by omega) hg2 ls (lv_sub hl [2, 1, 3, 0] rfl)
        exact M_233 (3 + 1) 0 h (by omega) (by omega) rfl ls (lv_sub hl [1, 2, 3, 0] rfl)
    exact L_224 (8 + 1) 0 _ (by omega) (by omega) rfl ls (lv_sub hl [1, 2, 0] rfl)
  have K_192 : ∀ ls, lv_has ls 5 [(0, .ref (ad 300)), (1, .long (sD_4 (ρ 0)))] → W p l e rm_X3_digest s m ([.ref (ad 300)] : List Value).toArray below meth c s.heap [] 0 0 (MQ below (vpL (sD_6 (ρ 0))) ([.ref (ad 300)] : List Value).toArray s 0 0 (fun _ => False)) (F0 m 192 ls []) := by
    intro ls hl
    refine lv_iconst (v := 0) hx hb dX3_digest_192 (by decide) ?_
    refine lv_istore_n (lv' := [(3, .int (nI 0)), (0, .ref (ad 300)), (1, .long (sD_4 (ρ 0)))]) hx hb dX3_digest_193 rfl hl (by decide) rfl (fun ls hl => ?_)
    have L_194 : ∀ (fu i : Nat) (h : Int64), 8 - i < fu → i ≤ 8 → dg1 (fun i => f_X2_sumOf (ρ 0) (nI i)) 8 fu i h = sD_5 (ρ 0) → ∀ ls, lv_has ls 5 [(0, .ref (ad 300)), (1, .long h), (3, .int (nI i))] → W p l e rm_X3_digest s m ([.ref (ad 300)] : List Value).toArray below meth c s.heap [] 0 0 (MQ below (vpL (sD_6 (ρ 0))) ([.ref (ad 300)] : List Value).toArray s 0 0 (fun _ => False)) (F0 m 194 ls []) := by
      intro fu
      induction fu with
      | zero => intro i h hm; exact absurd hm (Nat.not_lt_zero _)
      | succ fu ih =>
        intro i h hm hi hg ls hl
        rw [dg1] at hg
        refine lv_iload_n hx hb dX3_digest_194 rfl (lv_at hl 2 rfl) ?_
        refine lv_bipush (v := 7) hx hb dX3_digest_195 (by decide) ?_
        refine lv_icmp_gtN i (7) hx hb rfl rfl (by omega) (by omega) (tgt := 222) dX3_digest_197 (by decide) (fun c1 => ?_) (fun c1 => ?_)
        · rw [if_pos (show 8 ≤ i by omega)] at hg; exact K_222 ls (by rw [← hg]; exact lv_sub hl [0, 1] rfl)
        rw [if_neg (show ¬ 8 ≤ i by omega)] at hg
        refine lv_ldc2 hx hb hown (hts _ (List.mem_cons_of_mem _ mk_X3_144)) dX3_digest_200 ?_
        refine lv_lload_n hx hb dX3_digest_203 rfl (lv_at hl 1 rfl) ?_
        refine lv_lmul hx hb dX3_digest_204 ?_
        refine lv_aload_n hx hb dX3_digest_205 rfl (lv_at hl 0 rfl) ?_
        refine br_g0 hx hb hts hown hK hB dX3_digest_206 ?_
        refine lv_iload_n hx hb dX3_digest_209 rfl (lv_at hl 2 rfl) ?_
        refine sh_call (rest := [.long (31 * h)]) hx hb hml hown hts (brK_1 hK) hP (c_X2_sumOf l D cI _ _ (ρ 0) (nI i)) (kV_X2_sumOf hts ml_X3_70 ⟨(Nat.le_of_ble_eq_true rfl), (Nat.le_of_ble_eq_true rfl)⟩) rfl hl.1 rfl (Nat.le_of_ble_eq_true rfl) dX3_digest_210 (Nat.zero_le _) (Nat.zero_le _) ?_
        refine lv_i2l (v := (f_X2_sumOf (ρ 0) (nI i)).toInt64) hx hb dX3_digest_213 rfl ?_
        refine lv_ladd hx hb dX3_digest_214 ?_
        refine lv_lstore_n (lv' := [(1, .long (hN h (f_X2_sumOf (ρ 0) (nI i)))), (0, .ref (ad 300)), (3, .int (nI i))]) hx hb dX3_digest_215 rfl hl (by decide) rfl (fun ls hl => ?_)
        refine lv_iinc (v := nI (i + 1)) (lv' := [(3, .int (nI (i + 1))), (1, .long (hN h (f_X2_sumOf (ρ 0) (nI i)))), (0, .ref (ad 300))]) hx hb dX3_digest_216 hl (k := 2) rfl (nI_c1 _) (by decide) rfl (fun ls hl => ?_)
        refine lv_goto (tgt := 194) hx hb dX3_digest_219 (by decide) ?_
        exact ih (i + 1) _ (by omega) (by omega) hg ls (lv_sub hl [2, 1, 0] rfl)
    exact L_194 (8 + 1) 0 _ (by omega) (by omega) rfl ls (lv_sub hl [1, 2, 0] rfl)
  have K_139 : ∀ ls, lv_has ls 5 [(0, .ref (ad 300)), (1, .long (sD_3 (ρ 0)))] → W p l e rm_X3_digest s m ([.ref (ad 300)] : List Value).toArray below meth c s.heap [] 0 0 (MQ below (vpL (sD_6 (ρ 0))) ([.ref (ad 300)] : List Value).toArray s 0 0 (fun _ => False)) (F0 m 139 ls []) := by
    intro ls hl
    refine lv_iconst (v := 0) hx hb dX3_digest_139 (by decide) ?_
    refine lv_istore_n (lv' := [(3, .int (nI 0)), (0, .ref (ad 300)), (1, .long (sD_3 (ρ 0)))]) hx hb dX3_digest_140 rfl hl (by decide) rfl (fun ls hl => ?_)
    have L_141 : ∀ (fu i : Nat) (h : Int64), nN (ρ 0) - i < fu → i ≤ nN (ρ 0) → dg2 (fun i k => f_X2_copyProperty (ρ 0) (nI i) (nI k)) (nN (ρ 0)) 11 fu i h = sD_4 (ρ 0) → ∀ ls, lv_has ls 5 [(0, .ref (ad 300)), (1, .long h), (3, .int (nI i))] → W p l e rm_X3_digest s m ([.ref (ad 300)] : List Value).toArray below meth c s.heap [] 0 0 (MQ below (vpL (sD_6 (ρ 0))) ([.ref (ad 300)] : List Value).toArray s 0 0 (fun _ => False)) (F0 m 141 ls []) := by
      intro fu
      induction fu with
      | zero => intro i h hm; exact absurd hm (Nat.not_lt_zero _)
      | succ fu ih =>
        intro i h hm hi hg ls hl
        rw [dg2] at hg
        refine lv_iload_n hx hb dX3_digest_141 rfl (lv_at hl 2 rfl) ?_
        refine lv_aload_n hx hb dX3_digest_142 rfl (lv_at hl 0 rfl) ?_
        refine br_g0 hx hb hts hown hK hB dX3_digest_143 ?_
        refine va_getN (ci := 2) (C := RX2) (T := TX2) (N := 18) (v := .int (ρ 0 3 0)) hx hb hts (fun w h => List.mem_cons_of_mem _ (inX2 w h)) hown (brK_1 hK) hP 0 rfl rfl 3 (by decide) (va_tabs rfl rfl hNw.2.2) (fun _ h => h) rfl dX3_digest_146 ?_
        refine lv_icmp_geN i (nN (ρ 0)) hx hb rfl (okS_3 hok) (by omega) (by omega) (tgt := 192) dX3_digest_149 (by decide) (fun c1 => ?_) (fun c1 => ?_)
        · rw [if_pos (show nN (ρ 0) ≤ i by omega)] at hg; exact K_192 ls (by rw [← hg]; exact lv_sub hl [0, 1] rfl)
        rw [if_neg (show ¬ nN (ρ 0) ≤ i by omega)] at hg
        refine lv_iconst (v := 0) hx hb dX3_digest_152 (by decide) ?_
        refine lv_istore (lv' := [(4, .int (nI 0)), (0, .ref (ad 300)), (1, .long h), (3, .int (nI i))]) hx hb dX3_digest_153 hl (by decide) rfl (fun ls hl => ?_)
        have M_155 : ∀ (fv k : Nat) (h2 : Int64), 11 - k < fv → k ≤ 11 → dg1 ((fun i k => f_X2_copyProperty (ρ 0) (nI i) (nI k)) i) 11 fv k h2 = dg1 ((fun i k => f_X2_copyProperty (ρ 0) (nI i) (nI k)) i) 11 (11 + 1) 0 h → ∀ ls, lv_has ls 5 [(0, .ref (ad 300)), (1, .long h2), (3, .int (nI i)), (4, .int (nI k))] → W p l e rm_X3_digest s m ([.ref (ad 300)] : List Value).toArray below meth c s.heap [] 0 0 (MQ below (vpL (sD_6 (ρ 0))) ([.ref (ad 300)] : List Value).toArray s 0 0 (fun _ => False)) (F0 m 155 ls []) := by
          intro fv
          induction fv with
          | zero => intro k h2 hm2; exact absurd hm2 (Nat.not_lt_zero _)
          | succ fv ih2 =>
            intro k h2 hm2 hk hg2 ls hl
            rw [dg1] at hg2
            refine lv_iload hx hb dX3_digest_155 (lv_at hl 3 rfl) ?_
            refine lv_bipush (v := 10) hx hb dX3_digest_157 (by decide) ?_
            refine lv_icmp_gtN k 10 hx hb rfl rfl (by omega) (by omega) (tgt := 186) dX3_digest_159 (by decide) (fun c2 => ?_) (fun c2 => ?_)
            · rw [if_pos (show 11 ≤ k by omega)] at hg2
              refine lv_iinc (v := nI (i + 1)) (lv' := [(3, .int (nI (i + 1))), (0, .ref (ad 300)), (1, .long h2), (4, .int (nI k))]) hx hb dX3_digest_186 hl (k := 2) rfl (nI_c1 _) (by decide) rfl (fun ls hl => ?_)
              refine lv_goto (tgt := 141) hx hb dX3_digest_189 (by decide) ?_
              exact ih (i + 1) h2 (by omega) (by omega) (by rw [hg2]; exact hg) ls (lv_sub hl [1, 2, 0] rfl)
            rw [if_neg (show ¬ 11 ≤ k by omega)] at hg2
            refine lv_ldc2 hx hb hown (hts _ (List.mem_cons_of_mem _ mk_X3_144)) dX3_digest_162 ?_
            refine lv_lload_n hx hb dX3_digest_165 rfl (lv_at hl 1 rfl) ?_
            refine lv_lmul hx hb dX3_digest_166 ?_
            refine lv_aload_n hx hb dX3_digest_167 rfl (lv_at hl 0 rfl) ?_
            refine br_g0 hx hb hts hown hK hB dX3_digest_168 ?_
            refine lv_iload_n hx hb dX3_digest_171 rfl (lv_at hl 2 rfl) ?_
            refine lv_iload hx hb dX3_digest_172 (lv_at hl 3 rfl) ?_
            refine sh_call (rest := [.long (31 * h2)]) hx hb hml hown hts (brK_1 hK) hP (c_X2_copyProperty l D cI _ _ (ρ 0) (nI i) (nI k) hok) (kV_X2_copyProperty hts ml_X3_67 ⟨(Nat.le_of_ble_eq_true rfl), (Nat.le_of_ble_eq_true rfl)⟩) rfl hl.1 rfl (Nat.le_of_ble_eq_true rfl) dX3_digest_174 (Nat.zero_le _) (Nat.zero_le _) ?_
            refine lv_i2l (v := (f_X2_copyProperty (ρ 0) (nI i) (nI k)).toInt64) hx hb dX3_digest_177 rfl ?_
            refine lv_ladd hx hb dX3_digest_178 ?_
            refine lv_lstore_n (lv' := [(1, .long (hN h2 (f_X2_copyProperty (ρ 0) (nI i) (nI k)))), (0, .ref (ad 300)), (3, .int (nI i)), (4, .int (nI k))]) hx hb dX3_digest_179 rfl hl (by decide) rfl (fun ls hl => ?_)
            refine lv_iinc (v := nI (k + 1)) (lv' := [(4, .int (nI (k + 1))), (1, .long (hN h2 (f_X2_copyProperty (ρ 0) (nI i) (nI k)))), (0, .ref (ad 300)), (3, .int (nI i))]) hx hb dX3_digest_180 hl (k := 3) rfl (nI_c1 _) (by decide) rfl (fun ls hl => ?_)
            refine lv_goto (tgt := 155) hx hb dX3_digest_183 (by decide) ?_
            exact ih2 (k + 1) _ (by omega) (by omega) hg2 ls (lv_sub hl [2, 1, 3, 0] rfl)
        exact M_155 (11 + 1) 0 h (by omega) (by omega) rfl ls (lv_sub hl [1, 2, 3, 0] rfl)
    exact L_141 (nN (ρ 0) + 1) 0 _ (by omega) (by omega) rfl ls (lv_sub hl [1, 2, 0] rfl)
  have K_87 : ∀ ls, lv_has ls 5 [(0, .ref (ad 300)), (1, .long (sD_2 (ρ 0)))] → W p l e rm_X3_digest s m ([.ref (ad 300)] : List Value).toArray below meth c s.heap [] 0 0 (MQ below (vpL (sD_6 (ρ 0))) ([.ref (ad 300)] : List Value).toArray s 0 0 (fun _ => False)) (F0 m 87 ls []) := by
    intro ls hl
    refine lv_iconst (v := 0) hx hb dX3_digest_87 (by decide) ?_
    refine lv_istore_n (lv' := [(3, .int (nI 0)), (0, .ref (ad 300)), (1, .long (sD_2 (ρ 0)))]) hx hb dX3_digest_88 rfl hl (by decide) rfl (fun ls hl => ?_)
    have L_89 : ∀ (fu i : Nat) (h : Int64), nC (ρ 0) - i < fu → i ≤ nC (ρ 0) → dg2 (fun i k => f_X2_courseProperty (ρ 0) (nI i) (nI k)) (nC (ρ 0)) 4 fu i h = sD_3 (ρ 0) → ∀ ls, lv_has ls 5 [(0, .ref (ad 300)), (1, .long h), (3, .int (nI i))] → W p l e rm_X3_digest s m ([.ref (ad 300)] : List Value).toArray below meth c s.heap [] 0 0 (MQ below (vpL (sD_6 (ρ 0))) ([.ref (ad 300)] : List Value).toArray s 0 0 (fun _ => False)) (F0 m 89 ls []) := by
      intro fu
      induction fu with
      | zero => intro i h hm; exact absurd hm (Nat.not_lt_zero _)
      | succ fu ih =>
        intro i h hm hi hg ls hl
        rw [dg2] at hg
        refine lv_iload_n hx hb dX3_digest_89 rfl (lv_at hl 2 rfl) ?_
        refine lv_aload_n hx hb dX3_digest_90 rfl (lv_at hl 0 rfl) ?_
        refine br_g0 hx hb hts hown hK hB dX3_digest_91 ?_
        refine va_getN (ci := 2) (C := RX2) (T := TX2) (N := 18) (v := .int (ρ 0 2 0)) hx hb hts (fun w h => List.mem_cons_of_mem _ (inX2 w h)) hown (brK_1 hK) hP 0 rfl rfl 2 (by decide) (va_tabs rfl rfl hNw.2.1) (fun _ h => h) rfl dX3_digest_94 ?_
        refine lv_icmp_geN i (nC (ρ 0)) hx hb rfl (okS_2 hok) (by omega) (by omega) (tgt := 139) dX3_digest_97 (by decide) (fun c1 => ?_) (fun c1 => ?_)
        · rw [if_pos (show nC (ρ 0) ≤ i by omega)] at hg; exact K_139 ls (by rw [← hg]; exact lv_sub hl [0, 1] rfl)
        rw [if_neg (show ¬ nC (ρ 0) ≤ i by omega)] at hg
        refine lv_iconst (v := 0) hx hb dX3_digest_100 (by decide) ?_
        refine lv_istore (lv' := [(4, .int (nI 0)), (0, .ref (ad 300)), (1, .long h), (3, .int (nI i))]) hx hb dX3_digest_101 hl (by decide) rfl (fun ls hl => ?_)
        have M_103 : ∀ (fv k : Nat) (h2 : Int64), 4 - k < fv → k ≤ 4 → dg1 ((fun i k => f_X2_courseProperty (ρ 0) (nI i) (nI k)) i) 4 fv k h2 = dg1 ((fun i k => f_X2_courseProperty (ρ 0) (nI i) (nI k)) i) 4 (4 + 1) 0 h → ∀ ls, lv_has ls 5 [(0, .ref (ad 300)), (1, .long h2), (3, .int (nI i)), (4, .int (nI k))] → W p l e rm_X3_digest s m ([.ref (ad 300)] : List Value).toArray below meth c s.heap [] 0 0 (MQ below (vpL (sD_6 (ρ 0))) ([.ref (ad 300)] : List Value).toArray s 0 0 (fun _ => False)) (F0 m 103 ls []) := by
          intro fv
          induction fv with
          | zero => intro k h2 hm2; exact absurd hm2 (Nat.not_lt_zero _)
          | succ fv ih2 =>
            intro k h2 hm2 hk hg2 ls hl
            rw [dg1] at hg2
            refine lv_iload hx hb dX3_digest_103 (lv_at hl 3 rfl) ?_
            refine lv_iconst (v := 3) hx hb dX3_digest_105 (by decide) ?_
            refine lv_icmp_gtN k 3 hx hb rfl rfl (by omega) (by omega) (tgt := 133) dX3_digest_106 (by decide) (fun c2 => ?_) (fun c2 => ?_)
            · rw [if_pos (show 4 ≤ k by omega)] at hg2
              refine lv_iinc (v := nI (i + 1)) (lv' := [(3, .int (nI (i + 1))), (0, .ref (ad 300)), (1, .long h2), (4, .int (nI k))]) hx hb dX3_digest_133 hl (k := 2) rfl (nI_c1 _) (by decide) rfl (fun ls hl => ?_)
              refine lv_goto (tgt := 89) hx hb dX3_digest_136 (by decide) ?_
              exact ih (i + 1) h2 (by omega) (by omega) (by rw [hg2]; exact hg) ls (lv_sub hl [1, 2, 0] rfl)
            rw [if_neg (show ¬ 4 ≤ k by omega)] at hg2
            refine lv_ldc2 hx hb hown (hts _ (List.mem_cons_of_mem _ mk_X3_144)) dX3_digest_109 ?_
            refine lv_lload_n hx hb dX3_digest_112 rfl (lv_at hl 1 rfl) ?_
            refine lv_lmul hx hb dX3_digest_113 ?_
            refine lv_aload_n hx hb dX3_digest_114 rfl (lv_at hl 0 rfl) ?_
            refine br_g0 hx hb hts hown hK hB dX3_digest_115 ?_
            refine lv_iload_n hx hb dX3_digest_118 rfl (lv_at hl 2 rfl) ?_
            refine lv_iload hx hb dX3_digest_119 (lv_at hl 3 rfl) ?_
            refine sh_call (rest := [.long (31 * h2)]) hx hb hml hown hts (brK_1 hK) hP (c_X2_courseProperty l D cI _ _ (ρ 0) (nI i) (nI k) hok) (kV_X2_courseProperty hts ml_X3_64 ⟨(Nat.le_of_ble_eq_true rfl), (Nat.le_of_ble_eq_true rfl)⟩) rfl hl.1 rfl (Nat.le_of_ble_eq_true rfl) dX3_digest_121 (Nat.zero_le _) (Nat.zero_le _) ?_
            refine lv_i2l (v := (f_X2_courseProperty (ρ 0) (nI i) (nI k)).toInt64) hx hb dX3_digest_124 rfl ?_
            refine lv_ladd hx hb dX3_digest_125 ?_
            refine lv_lstore_n (lv' := [(1, .long (hN h2 (f_X2_courseProperty (ρ 0) (nI i) (nI k)))), (0, .ref (ad 300)), (3, .int (nI i)), (4, .int (nI k))]) hx hb dX3_digest_126 rfl hl (by decide) rfl (fun ls hl => ?_)
            refine lv_iinc (v := nI (k + 1)) (lv' := [(4, .int (nI (k + 1))), (1, .long (hN h2 (f_X2_courseProperty (ρ 0) (nI i) (nI k)))), (0, .ref (ad 300)), (3, .int (nI i))]) hx hb dX3_digest_127 hl (k := 3) rfl (nI_c1 _) (by decide) rfl (fun ls hl => ?_)
            refine lv_goto (tgt := 103) hx hb dX3_digest_130 (by decide) ?_
            exact ih2 (k + 1) _ (by omega) (by omega) hg2 ls (lv_sub hl [2, 1, 3, 0] rfl)
        exact M_103 (4 + 1) 0 h (by omega) (by omega) rfl ls (lv_sub hl [1, 2, 3, 0] rfl)
    exact L_89 (nC (ρ 0) + 1) 0 _ (by omega) (by omega) rfl ls (lv_sub hl [1, 2, 0] rfl)
  have K_34 : ∀ ls, lv_has ls 5 [(0, .ref (ad 300)), (1, .long (sD_1 (ρ 0)))] → W p l e rm_X3_digest s m ([.ref (ad 300)] : List Value).toArray below meth c s.heap [] 0 0 (MQ below (vpL (sD_6 (ρ 0))) ([.ref (ad 300)] : List Value).toArray s 0 0 (fun _ => False)) (F0 m 34 ls []) := by
    intro ls hl
    refine lv_iconst (v := 0) hx hb dX3_digest_34 (by decide) ?_
    refine lv_istore_n (lv' := [(3, .int (nI 0)), (0, .ref (ad 300)), (1, .long (sD_1 (ρ 0)))]) hx hb dX3_digest_35 rfl hl (by decide) rfl (fun ls hl => ?_)
    have L_36 : ∀ (fu i : Nat) (h : Int64), nT (ρ 0) - i < fu → i ≤ nT (ρ 0) → dg2 (fun i k => f_X2_titleProperty (ρ 0) (nI i) (nI k)) (nT (ρ 0)) 7 fu i h = sD_2 (ρ 0) → ∀ ls, lv_has ls 5 [(0, .ref (ad 300)), (1, .long h), (3, .int (nI i))] → W p l e rm_X3_digest s m ([.ref (ad 300)] : List Value).toArray below meth c s.heap [] 0 0 (MQ below (vpL (sD_6 (ρ 0))) ([.ref (ad 300)] : List Value).toArray s 0 0 (fun _ => False)) (F0 m 36 ls []) := by
      intro fu
      induction fu with
      | zero => intro i h hm; exact absurd hm (Nat.not_lt_zero _)
      | succ fu ih =>
        intro i h hm hi hg ls hl
        rw [dg2] at hg
        refine lv_iload_n hx hb dX3_digest_36 rfl (lv_at hl 2 rfl) ?_
        refine lv_aload_n hx hb dX3_digest_37 rfl (lv_at hl 0 rfl) ?_
        refine br_g0 hx hb hts hown hK hB dX3_digest_38 ?_
        refine va_getN (ci := 2) (C := RX2) (T := TX2) (N := 18) (v := .int (ρ 0 1 0)) hx hb hts (fun w h => List.mem_cons_of_mem _ (inX2 w h)) hown (brK_1 hK) hP 0 rfl rfl 1 (by decide) (va_tabs rfl rfl hNw.1) (fun _ h => h) rfl dX3_digest_41 ?_
        refine lv_icmp_geN i (nT (ρ 0)) hx hb rfl (okS_1 hok) (by omega) (by omega) (tgt := 87) dX3_digest_44 (by decide) (fun c1 => ?_) (fun c1 => ?_)
        · rw [if_pos (show nT (ρ 0) ≤ i by omega)] at hg; exact K_87 ls (by rw [← hg]; exact lv_sub hl [0, 1] rfl)
        rw [if_neg (show ¬ nT (ρ 0) ≤ i by omega)] at hg
        refine lv_iconst (v := 0) hx hb dX3_digest_47 (by decide) ?_
        refine lv_istore (lv' := [(4, .int (nI 0)), (0, .ref (ad 300)), (1, .long h), (3, .int (nI i))]) hx hb dX3_digest_48 hl (by decide) rfl (fun ls hl => ?_)
        have M_50 : ∀ (fv k : Nat) (h2 : Int64), 7 - k < fv → k ≤ 7 → dg1 ((fun i k => f_X2_titleProperty (ρ 0) (nI i) (nI k)) i) 7 fv k h2 = dg1 ((fun i k => f_X2_titleProperty (ρ 0) (nI i) (nI k)) i) 7 (7 + 1) 0 h → ∀ ls, lv_has ls 5 [(0, .ref (ad 300)), (1, .long h2), (3, .int (nI i)), (4, .int (nI k))] → W p l e rm_X3_digest s m ([.ref (ad 300)] : List Value).toArray below meth c s.heap [] 0 0 (MQ below (vpL (sD_6 (ρ 0))) ([.ref (ad 300)] : List Value).toArray s 0 0 (fun _ => False)) (F0 m 50 ls []) := by
          intro fv
          induction fv with
          | zero => intro k h2 hm2; exact absurd hm2 (Nat.not_lt_zero _)
          | succ fv ih2 =>
            intro k h2 hm2 hk hg2 ls hl
            rw [dg1] at hg2
            refine lv_iload hx hb dX3_digest_50 (lv_at hl 3 rfl) ?_
            refine lv_bipush (v := 6) hx hb dX3_digest_52 (by decide) ?_
            refine lv_icmp_gtN k 6 hx hb rfl rfl (by omega) (by omega) (tgt := 81) dX3_digest_54 (by decide) (fun c2 => ?_) (fun c2 => ?_)
            · rw [if_pos (show 7 ≤ k by omega)] at hg2
              refine lv_iinc (v := nI (i + 1)) (lv' := [(3, .int (nI (i + 1))), (0, .ref (ad 300)), (1, .long h2), (4, .int (nI k))]) hx hb dX3_digest_81 hl (k := 2) rfl (nI_c1 _) (by decide) rfl (fun ls hl => ?_)
              refine lv_goto (tgt := 36) hx hb dX3_digest_84 (by decide) ?_
              exact ih (i + 1) h2 (by omega) (by omega) (by rw [hg2]; exact hg) ls (lv_sub hl [1, 2, 0] rfl)
            rw [if_neg (show ¬ 7 ≤ k by omega)] at hg2
            refine lv_ldc2 hx hb hown (hts _ (List.mem_cons_of_mem _ mk_X3_144)) dX3_digest_57 ?_
            refine lv_lload_n hx hb dX3_digest_60 rfl (lv_at hl 1 rfl) ?_
            refine lv_lmul hx hb dX3_digest_61 ?_
            refine lv_aload_n hx hb dX3_digest_62 rfl (lv_at hl 0 rfl) ?_
            refine br_g0 hx hb hts hown hK hB dX3_digest_63 ?_
            refine lv_iload_n hx hb dX3_digest_66 rfl (lv_at hl 2 rfl) ?_
            refine lv_iload hx hb dX3_digest_67 (lv_at hl 3 rfl) ?_
            refine sh_call (rest := [.long (31 * h2)]) hx hb hml hown hts (brK_1 hK) hP (c_X2_titleProperty l D cI _ _ (ρ 0) (nI i) (nI k) hok) (kV_X2_titleProperty hts ml_X3_61 ⟨(Nat.le_of_ble_eq_true rfl), (Nat.le_of_ble_eq_true rfl)⟩) rfl hl.1 rfl (Nat.le_of_ble_eq_true rfl) dX3_digest_69 (Nat.zero_le _) (Nat.zero_le _) ?_
            refine lv_i2l (v := (f_X2_titleProperty (ρ 0) (nI i) (nI k)).toInt64) hx hb dX3_digest_72 rfl ?_
            refine lv_ladd hx hb dX3_digest_73 ?_
            refine lv_lstore_n (lv' := [(1, .long (hN h2 (f_X2_titleProperty (ρ 0) (nI i) (nI k)))), (0, .ref (ad 300)), (3, .int (nI i)), (4, .int (nI k))]) hx hb dX3_digest_74 rfl hl (by decide) rfl (fun ls hl => ?_)
            refine lv_iinc (v := nI (k + 1)) (lv' := [(4, .int (nI (k + 1))), (1, .long (hN h2 (f_X2_titleProperty (ρ 0) (nI i) (nI k)))), (0, .ref (ad 300)), (3, .int (nI i))]) hx hb dX3_digest_75 hl (k := 3) rfl (nI_c1 _) (by decide) rfl (fun ls hl => ?_)
            refine lv_goto (tgt := 50) hx hb dX3_digest_78 (by decide) ?_
            exact ih2 (k + 1) _ (by omega) (by omega) hg2 ls (lv_sub hl [2, 1, 3, 0] rfl)
        exact M_50 (7 + 1) 0 h (by omega) (by omega) rfl ls (lv_sub hl [1, 2, 3, 0] rfl)
    exact L_36 (nT (ρ 0) + 1) 0 _ (by omega) (by omega) rfl ls (lv_sub hl [1, 2, 0] rfl)
  have K_4 : ∀ ls, lv_has ls 5 [(0, .ref (ad 300)), (1, .long 17)] → W p l e rm_X3_digest s m ([.ref (ad 300)] : List Value).toArray below meth c s.heap [] 0 0 (MQ below (vpL (sD_6 (ρ 0))) ([.ref (ad 300)] : List Value).toArray s 0 0 (fun _ => False)) (F0 m 4 ls []) := by
    intro ls hl
    refine lv_iconst (v := 0) hx hb dX3_digest_4 (by decide) ?_
    refine lv_istore_n (lv' := [(3, .int (nI 0)), (0, .ref (ad 300)), (1, .long 17)]) hx hb dX3_digest_5 rfl hl (by decide) rfl (fun ls hl => ?_)
    have L_6 : ∀ (fu i : Nat) (h : Int64), 14 - i < fu → i ≤ 14 → dg1 (fun i => f_X2_numberOf (ρ 0) (nI i)) 14 fu i h = sD_1 (ρ 0) → ∀ ls, lv_has ls 5 [(0, .ref (ad 300)), (1, .long h), (3, .int (nI i))] → W p l e rm_X3_digest s m ([.ref (ad 300)] : List Value).toArray below meth c s.heap [] 0 0 (MQ below (vpL (sD_6 (ρ 0))) ([.ref (ad 300)] : List Value).toArray s 0 0 (fun _ => False)) (F0 m 6 ls []) := by
      intro fu
      induction fu with
      | zero => intro i h hm; exact absurd hm (Nat.not_lt_zero _)
      | succ fu ih =>
        intro i h hm hi hg ls hl
        rw [dg1] at hg
        refine lv_iload_n hx hb dX3_digest_6 rfl (lv_at hl 2 rfl) ?_
        refine lv_bipush (v := 13) hx hb dX3_digest_7 (by decide) ?_
        refine lv_icmp_gtN i (13) hx hb rfl rfl (by omega) (by omega) (tgt := 34) dX3_digest_9 (by decide) (fun c1 => ?_) (fun c1 => ?_)
        · rw [if_pos (show 14 ≤ i by omega)] at hg; exact K_34 ls (by rw [← hg]; exact lv_sub hl [0, 1] rfl)
        rw [if_neg (show ¬ 14 ≤ i by omega)] at hg
        refine lv_ldc2 hx hb hown (hts _ (List.mem_cons_of_mem _ mk_X3_144)) dX3_digest_12 ?_
        refine lv_lload_n hx hb dX3_digest_15 rfl (lv_at hl 1 rfl) ?_
        refine lv_lmul hx hb dX3_digest_16 ?_
        refine lv_aload_n hx hb dX3_digest_17 rfl (lv_at hl 0 rfl) ?_
        refine br_g0 hx hb hts hown hK hB dX3_digest_18 ?_
        refine lv_iload_n hx hb dX3_digest_21 rfl (lv_at hl 2 rfl) ?_
        refine sh_call (rest := [.long (31 * h)]) hx hb hml hown hts (brK_1 hK) hP (c_X2_numberOf l D cI _ _ (ρ 0) (nI i) hok) (kV_X2_numberOf hts ml_X3_58 ⟨(Nat.le_of_ble_eq_true rfl), (Nat.le_of_ble_eq_true rfl)⟩) rfl hl.1 rfl (Nat.le_of_ble_eq_true rfl) dX3_digest_22 (Nat.zero_le _) (Nat.zero_le _) ?_
        refine lv_i2l (v := (f_X2_numberOf (ρ 0) (nI i)).toInt64) hx hb dX3_digest_25 rfl ?_
        refine lv_ladd hx hb dX3_digest_26 ?_
        refine lv_lstore_n (lv' := [(1, .long (hN h (f_X2_numberOf (ρ 0) (nI i)))), (0, .ref (ad 300)), (3, .int (nI i))]) hx hb dX3_digest_27 rfl hl (by decide) rfl (fun ls hl => ?_)
        refine lv_iinc (v := nI (i + 1)) (lv' := [(3, .int (nI (i + 1))), (1, .long (hN h (f_X2_numberOf (ρ 0) (nI i)))), (0, .ref (ad 300))]) hx hb dX3_digest_28 hl (k := 2) rfl (nI_c1 _) (by decide) rfl (fun ls hl => ?_)
        refine lv_goto (tgt := 6) hx hb dX3_digest_31 (by decide) ?_
        exact ih (i + 1) _ (by omega) (by omega) hg ls (lv_sub hl [2, 1, 0] rfl)
    exact L_6 (14 + 1) 0 _ (by omega) (by omega) rfl ls (lv_sub hl [1, 2, 0] rfl)
  refine lv_ldc2 hx hb hown (hts _ (List.mem_cons_of_mem _ mk_X3_142)) dX3_digest_0 ?_
  refine lv_lstore_n (lv' := [(1, .long 17), (0, .ref (ad 300))]) hx hb dX3_digest_3 rfl hl (by decide) rfl (fun ls hl => ?_)
  exact K_4 ls (lv_sub hl [1, 0] rfl)

theorem kV_X3_digest {R : Room} {s : State} {args : Array Value} {own : String} {idx : Nat} {c0 : Cond} (hts : ∀ w ∈ c0 :: W0, w.before args s = true) (hl : Cond.methodLink own idx yX3_digest ∈ W0) (hR : rm_X3_digest.frames + 1 ≤ R.frames ∧ 8 + (5 + 11) + rm_X3_digest.locals ≤ R.locals) : CallW R s args own RX3 idx yX3_digest cX3_digest 5 (some .long) (Cond.code yX3_digest cX3_digest 5 (some .long) :: W0) rm_X3_digest 0 0 0 := cwV 0 hts (gdV hl mi_yX3_digest ms_yX3_digest mini_X3 mc_yX3_digest) rfl rfl rfl (by decide +kernel) hR

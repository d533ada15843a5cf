/-! ===== the law's facts ===== -/
section FACTS
variable {σ : ST}
theorem aging_5 (h : bq σ) {t : Nat} (ht : t < nT σ) (q : f_X2_agingBy σ (nI t) = (-5)) : m_X2_advanceEdition σ (nI t) = (-5, σ) := by
  rcases aging_cases h ht with ⟨_, e⟩ | ⟨c, e1, _⟩
  · exact e
  · have b := aging_b h ht c
    rw [← e1, q] at b
    exact absurd b.1 (by decide)
end FACTS
theorem law_facts : F_law I1 I2 := by
  refine ⟨?_, ?_, ?_, ?_, ?_, ?_, ?_, ?_, ?_, ?_, ?_, ?_, ?_, ?_, ?_, ?_, ?_, ?_, ?_, ?_, ?_, ?_, ?_, ?_, ?_, ?_, ?_, ?_, ?_, ?_, ?_, ?_, ?_, ?_, ?_, ?_, ?_, ?_, ?_, ?_, ?_, ?_, ?_, ?_, ?_, ?_, ?_, ?_, ?_, ?_, ?_, ?_, ?_, ?_, ?_, ?_, ?_, ?_, ?_, ?_, ?_, ?_, ?_, ?_, ?_, ?_, ?_, ?_, ?_, ?_, ?_, ?_, ?_, ?_, ?_, ?_, ?_, ?_, ?_, ?_, ?_, ?_, ?_, ?_, ?_, ?_, ?_, ?_, ?_⟩
  · exact a_1
  · exact a_2
  · exact by rw [a_3]
  · exact by rw [a_3]
  · exact a_4
  · exact fun y1 => low_T y1
  · exact fun _ _ _ _ h2 => (pass_v (iv_q h2.1) (i2_days h2 _).1 (i2_days h2 _).2).1
  · exact fun _ _ _ _ h2 => (pass_v (iv_q h2.1) (i2_days h2 _).1 (i2_days h2 _).2).2.1
  · exact fun _ _ _ _ h2 => sound (inv_pass h2.1 _)
  · exact fun _ _ _ _ h2 => (pass_v (iv_q h2.1) (i2_days h2 _).1 (i2_days h2 _).2).2.2
  · exact fun _ _ _ h2 => by rw [z_1]
  · exact fun _ _ _ h2 => by rw [z_1]
  · exact fun _ _ _ h2 => by rw [(z_2 (iv_ok h2.1))]
  · exact fun _ _ _ h2 => by rw [(z_2 (iv_ok h2.1))]
  · exact fun _ _ _ h2 => by rw [(z_3 (iv_ok h2.1))]
  · exact fun _ _ _ h2 => by rw [(z_3 (iv_ok h2.1))]
  · exact fun _ _ _ h2 => by rw [(z_4 (iv_ok h2.1) h2.2.1)]
  · exact fun _ _ _ h2 => by rw [(z_4 (iv_ok h2.1) h2.2.1)]
  · exact fun _ _ _ h2 => by rw [z_5]
  · exact fun _ _ _ h2 => by rw [z_5]
  · exact fun _ _ _ h2 => by rw [z_6]
  · exact fun _ _ _ h2 => by rw [z_6]
  · exact fun _ _ _ h2 => by rw [(z_7 (iv_ok h2.1) h2.2.1)]
  · exact fun _ _ _ h2 => by rw [(z_7 (iv_ok h2.1) h2.2.1)]
  · exact fun _ _ _ h2 => z_8 (iv_ok h2.1) h2.2.1
  · exact fun _ _ _ h2 => by rw [(z_9 (iv_ok h2.1))]
  · exact fun _ _ _ h2 => by rw [(z_9 (iv_ok h2.1))]
  · exact fun _ _ _ h2 => by rw [z_10]
  · exact fun _ _ _ h2 => by rw [z_10]
  · exact fun _ _ _ h2 => z_11 (iv_ok h2.1)
  · exact fun _ _ _ h2 => z_12 (iv_ok h2.1)
  · exact fun _ _ _ h2 => by rw [z_13]
  · exact fun _ _ _ h2 => by rw [z_13]
  · exact fun _ _ _ h2 => by rw [(z_14 (iv_ok h2.1) h2.2.1)]
  · exact fun _ _ _ h2 => by rw [(z_14 (iv_ok h2.1) h2.2.1)]
  · exact fun _ _ _ h2 => z_15
  · exact fun _ _ _ h2 => z_16
  · exact fun _ _ _ h2 => z_17
  · exact fun _ _ _ _ h2 hc rl => (rent_e (iv_ok h2.1) (ndl hc) rl).1
  · exact fun _ _ _ _ h2 hc rl => (rent_e (iv_ok h2.1) (ndl hc) rl).2
  · exact fun _ _ _ _ h2 hc rn => (rent_v (iv_ok h2.1) (ndl hc) rn).1
  · exact fun _ _ _ _ h2 hc rn => (rent_v (iv_ok h2.1) (ndl hc) rn).2.1
  · exact fun _ _ _ _ h2 hc rn => (rent_v (iv_ok h2.1) (ndl hc) rn).2.2.1
  · exact fun _ _ _ _ h2 hc rn => (rent_v (iv_ok h2.1) (ndl hc) rn).2.2.2
  · exact fun _ _ _ _ h2 ht an => (aging_v h2.1 (ndl ht) an).1
  · exact fun _ _ _ _ h2 ht an => (aging_v h2.1 (ndl ht) an).2.1
  · exact fun _ _ _ _ h2 ht an => (aging_v h2.1 (ndl ht) an).2.2.1
  · exact fun _ _ _ _ h2 ht an => (aging_v h2.1 (ndl ht) an).2.2.2
  · exact fun _ _ _ _ _ h2 ht an on nn => (offer_in2 h2.1 (ndl ht) (b_12 _) on nn).1
  · exact fun _ _ _ _ _ h2 ht an on nn => (offer_in2 h2.1 (ndl ht) (b_12 _) on nn).2.1
  · exact fun _ _ _ _ _ h2 ht an on nn => (offer_in2 h2.1 (ndl ht) (b_12 _) on nn).2.2.1
  · exact fun _ _ _ _ _ h2 ht an on nn => (offer_in2 h2.1 (ndl ht) (b_12 _) on nn).2.2.2
  · exact fun _ _ _ _ _ h2 ht an on nn => offer_mono (iv_q h2.1) (ndl ht) (b_12 _)
  · exact fun _ _ _ _ _ h2 ht an on n6 => by rw [offer_60 (iv_q h2.1) (ndl ht) (b_12 _) on n6]
  · exact fun _ _ _ _ _ h2 ht an on n6 => by rw [offer_60 (iv_q h2.1) (ndl ht) (b_12 _) on n6]
  · exact fun _ _ _ _ _ h2 ht an on n6 => offer_mono (iv_q h2.1) (ndl ht) (b_12 _)
  · exact fun _ _ _ _ _ h2 ht an o0 => by rw [offer_0 (iv_q h2.1) (ndl ht) (b_12 _) o0]
  · exact fun _ _ _ _ _ h2 ht an o0 => by rw [offer_0 (iv_q h2.1) (ndl ht) (b_12 _) o0]
  · exact fun _ _ _ _ _ h2 ht an o0 => offer_mono (iv_q h2.1) (ndl ht) (b_12 _)
  · exact fun _ _ _ _ h2 ht a5 => by rw [aging_5 (iv_q h2.1) (ndl ht) a5]
  · exact fun _ _ _ _ h2 ht a5 => by rw [aging_5 (iv_q h2.1) (ndl ht) a5]
  · exact fun _ _ _ _ _ h2 ht a5 on nn => (offer_in2 h2.1 (ndl ht) (b_12 _) on nn).1
  · exact fun _ _ _ _ _ h2 ht a5 on nn => (offer_in2 h2.1 (ndl ht) (b_12 _) on nn).2.1
  · exact fun _ _ _ _ _ h2 ht a5 on nn => (offer_in2 h2.1 (ndl ht) (b_12 _) on nn).2.2.1
  · exact fun _ _ _ _ _ h2 ht a5 on nn => (offer_in2 h2.1 (ndl ht) (b_12 _) on nn).2.2.2
  · exact fun _ _ _ _ _ h2 ht a5 on nn => offer_mono (iv_q h2.1) (ndl ht) (b_12 _)
  · exact fun _ _ _ _ _ h2 ht a5 on n6 => by rw [offer_60 (iv_q h2.1) (ndl ht) (b_12 _) on n6]
  · exact fun _ _ _ _ _ h2 ht a5 on n6 => by rw [offer_60 (iv_q h2.1) (ndl ht) (b_12 _) on n6]
  · exact fun _ _ _ _ _ h2 ht a5 on n6 => offer_mono (iv_q h2.1) (ndl ht) (b_12 _)
  · exact fun _ _ _ _ _ h2 ht a5 o0 => by rw [offer_0 (iv_q h2.1) (ndl ht) (b_12 _) o0]
  · exact fun _ _ _ _ _ h2 ht a5 o0 => by rw [offer_0 (iv_q h2.1) (ndl ht) (b_12 _) o0]
  · exact fun _ _ _ _ _ h2 ht a5 o0 => offer_mono (iv_q h2.1) (ndl ht) (b_12 _)
  · exact fun _ _ _ h2 hi cl => by rw [e_changes (iv_q h2.1) _ (Int32.not_le.mp cl)]; exact lg_self _
  · exact fun _ _ _ h2 hi => sound (inv_changes h2.1 _)
  · exact fun _ _ _ h2 hi _ _ => i2_ch h2 hi _
  · exact fun _ _ _ h2 hi _ _ => giving (inv_changes h2.1 _) _ _
  · exact fun _ _ _ h2 hi _ _ => i2_ch h2 hi _
  · exact fun _ _ _ h2 hi _ _ _ => i2_ch h2 hi _
  · exact fun _ _ _ h2 hi _ _ _ => giving (inv_changes h2.1 _) _ _
  · exact fun _ _ _ h2 hi _ _ _ => i2_ch h2 hi _
  · exact fun _ _ _ h2 hi _ _ _ => i2_id h2 hi
  · exact fun _ _ _ h2 hi _ _ _ => giving h2.1 _ _
  · exact fun _ _ _ h2 hi _ _ _ => i2_id h2 hi
  · exact fun _ _ _ n1 n3 nle h1 => i2_0 h1 n1 nle
  · exact fun _ _ _ _ h1 n1 n3 hlt => (i1_all h1 n3 hlt _ (y2 := 0) (y3 := 0) (y4 := 0)).1
  · exact fun _ _ _ _ h1 n1 n3 hlt => (i1_all h1 n3 hlt _ (y4 := 0)).2.1
  · exact fun _ _ _ _ h1 n1 n3 hlt => (i1_all h1 n3 hlt _).2.2.1
  · exact fun _ _ _ _ h1 n1 n3 hlt => (i1_all h1 n3 hlt _).2.2.2
  · exact fun _ n1 n3 => i1_0

/-! THE START; THE LAW'S CASES; THE WHOLE RUN -/
theorem m0_num : mI M0 285 1192 = Int32.ofNat 0 ∧ mI M0 1 1 = Int32.ofNat 0 ∧ mI M0 1 8 = Int32.ofNat 0 ∧ mI M0 285 1193 = Int32.ofNat 0 ∧ mI M0 0 3 = 0 ∧ mI M0 284 8 = 0 ∧ (∀ k : Fin 10, mI M0 3 k.val = mI M0 285 (360 + k.val) ∧ (0 : Int) ≤ (mI M0 285 (360 + k.val)).toInt ∧ (mI M0 285 (360 + k.val)).toInt ≤ (if k.val = 0 then 9 else if k.val = 3 then 30 else 100)) ∧ (∀ d : Fin 4, mI M0 4 d.val = mI M0 285 (370 + 3 * d.val) ∧ mI M0 285 (370 + 3 * d.val) = 0 ∧ mI M0 5 d.val = mI M0 285 (371 + 3 * d.val) ∧ mI M0 6 d.val = mI M0 285 (372 + 3 * d.val)) ∧ ∀ d : Fin 8, mI M0 (253 + 7 + 3 * d.val) 0 = mI M0 287 d.val ∧ mI M0 287 d.val = 0 := by decide +kernel
theorem m0_inv : Inv M0 := by
  obtain ⟨h1, h2, h3, h4, h5, h6, h7, h8, h9⟩ := m0_num
  refine ⟨⟨0, 0, ⟨⟨⟨by omega, h1, fun h hh => absurd hh (by omega), fun k hk => (h7 ⟨k, hk⟩).2⟩, h2, fun h hh => absurd hh (by omega), fun k hk => (h7 ⟨k, hk⟩).1⟩, fun h hh => absurd hh (by omega), fun d hd => ?_, by omega, h3, h4, fun m hm => absurd hm (by omega)⟩, fun m hm => absurd hm (by omega)⟩, ⟨by rw [h5, h6], Or.inl h6⟩, fun d hd => ⟨(h9 ⟨d, hd⟩).1, Or.inl (h9 ⟨d, hd⟩).2⟩⟩
  obtain ⟨u0, u1, u2, u3⟩ := h8 ⟨d, hd⟩
  refine ⟨u0, ?_, u2, u3⟩
  have u1' : mI M0 285 (370 + 3 * d) = 0 := u1
  rw [u1']
  exact ⟨by rw [ti_zero]; omega, by rw [ti_zero]; omega⟩
section
variable {M : Mem} {len i : Nat}
theorem a1_ (i : Nat) : Int32.ofNat i + 1 = Int32.ofNat (i + 1) := o_add (j := 1)
theorem a2_ (i : Nat) : Int32.ofNat i + 2 = Int32.ofNat (i + 2) := o_add (j := 2)
theorem a3_ (i : Nat) : Int32.ofNat i + 3 = Int32.ofNat (i + 3) := o_add (j := 3)
theorem a4_ (i : Nat) : Int32.ofNat i + 4 = Int32.ofNat (i + 4) := o_add (j := 4)
theorem a5_ (i : Nat) : Int32.ofNat i + 5 = Int32.ofNat (i + 5) := o_add (j := 5)
theorem cs_0 (I : Inv M) (hl : len ≤ 3072) (hi : i + 5 < len) (sc : Nat → Int32) : ∃ M', Inv M' ∧ ∀ k, f_L_law_c0 sc len k (Int32.ofNat i) M = k (Int32.ofNat i) M' := by
  obtain ⟨r, M1, M2, e1, e2, I2⟩ := op_hall I (sc (i + 1)) (sc (i + 2)) (sc (i + 3))
  refine ⟨M2, I2, fun k => ?_⟩
  unfold f_L_law_c0
  rw [a1_, a2_, a3_, gd_r (by omega) (by omega), gd_r (by omega) (by omega), gd_r (by omega) (by omega)]
  simp (disch := omega) only [o_clamp]
  rw [e1, Option.bind_some, e2, Option.bind_some, if_pos rfl]
theorem cs_1 (I : Inv M) (hl : len ≤ 3072) (hi : i + 5 < len) (sc : Nat → Int32) : ∃ M', Inv M' ∧ ∀ k, f_L_law_c1 sc len k (Int32.ofNat i) M = k (Int32.ofNat i) M' := by
  obtain ⟨r, M1, M2, e1, e2, I2⟩ := op_truly I (sc (i + 1)) (sc (i + 2)) (sc (i + 3))
  refine ⟨M2, I2, fun k => ?_⟩
  unfold f_L_law_c1
  rw [a1_, a2_, a3_, gd_r (by omega) (by omega), gd_r (by omega) (by omega), gd_r (by omega) (by omega)]
  simp (disch := omega) only [o_clamp]
  rw [e1, Option.bind_some, e2, Option.bind_some, if_pos rfl]
theorem cs_2 (I : Inv M) (hl : len ≤ 3072) (hi : i + 5 < len) (sc : Nat → Int32) : ∃ M', Inv M' ∧ ∀ k, f_L_law_c2 sc len k (Int32.ofNat i) M = k (Int32.ofNat i) M' := by
  obtain ⟨r, M1, M2, e1, e2, I2⟩ := op_sheet I (sc (i + 1)) (sc (i + 2)) (sc (i + 3))
  refine ⟨M2, I2, fun k => ?_⟩
  unfold f_L_law_c2
  rw [a1_, a2_, a3_, gd_r (by omega) (by omega), gd_r (by omega) (by omega), gd_r (by omega) (by omega)]
  simp (disch := omega) only [o_clamp]
  rw [e1, Option.bind_some, e2, Option.bind_some, if_pos rfl]
theorem cs_3 (I : Inv M) (hl : len ≤ 3072) (hi : i + 5 < len) (sc : Nat → Int32) : ∃ M', Inv M' ∧ ∀ k, f_L_law_c3 sc len k (Int32.ofNat i) M = k (Int32.ofNat i) M' := by
  obtain ⟨r, M1, M2, e1, e2, I2⟩ := op_set I (sc (i + 1)) (sc (i + 2))
  refine ⟨M2, I2, fun k => ?_⟩
  unfold f_L_law_c3
  rw [a1_, a2_, gd_r (by omega) (by omega), gd_r (by omega) (by omega)]
  simp (disch := omega) only [o_clamp]
  rw [e1, Option.bind_some, e2, Option.bind_some, if_pos rfl]
theorem cs_4 (I : Inv M) (hl : len ≤ 3072) (hi : i + 5 < len) (sc : Nat → Int32) : ∃ M', Inv M' ∧ ∀ k, f_L_law_c4 sc len k (Int32.ofNat i) M = k (Int32.ofNat i) M' := by
  obtain ⟨N, K, R, W⟩ := I.1
  obtain ⟨r, e1, e2⟩ := op_of R (sc (i + 1)) (sc (i + 2))
  refine ⟨M, I, fun k => ?_⟩
  unfold f_L_law_c4
  rw [a1_, a2_, gd_r (by omega) (by omega), gd_r (by omega) (by omega)]
  simp (disch := omega) only [o_clamp]
  rw [e1, Option.bind_some, e2, Option.bind_some, if_pos rfl]
theorem cs_5 (I : Inv M) (hl : len ≤ 3072) (hi : i + 5 < len) (sc : Nat → Int32) : ∃ M', Inv M' ∧ ∀ k, f_L_law_c5 sc len k (Int32.ofNat i) M = k (Int32.ofNat i) M' := by
  obtain ⟨r, M1, M2, e1, e2, I2⟩ := op_send I (sc (i + 1))
  refine ⟨M2, I2, fun k => ?_⟩
  unfold f_L_law_c5
  rw [a1_, gd_r (by omega) (by omega)]
  simp (disch := omega) only [o_clamp]
  rw [e1, Option.bind_some, e2, Option.bind_some, if_pos rfl]
theorem cs_6 (I : Inv M) (hl : len ≤ 3072) (hi : i + 5 < len) (sc : Nat → Int32) : ∃ M', Inv M' ∧ ∀ k, f_L_law_c6 sc len k (Int32.ofNat i) M = k (Int32.ofNat i) M' := by
  obtain ⟨r, M1, M2, e1, e2, I2⟩ := op_hear I (sc (i + 1)) (sc (i + 2))
  refine ⟨M2, I2, fun k => ?_⟩
  unfold f_L_law_c6
  rw [a1_, a2_, gd_r (by omega) (by omega), gd_r (by omega) (by omega)]
  simp (disch := omega) only [o_clamp]
  rw [e1, Option.bind_some, e2, Option.bind_some, if_pos rfl]
theorem cs_7 (I : Inv M) (hl : len ≤ 3072) (hi : i + 5 < len) (sc : Nat → Int32) : ∃ M', Inv M' ∧ ∀ k, f_L_law_c7 sc len k (Int32.ofNat i) M = k (Int32.ofNat i) M' := by
  obtain ⟨N, K, R, W⟩ := I.1
  obtain ⟨r, M1, M2, e1, e2, s⟩ := op_figures R (sc (i + 1)) (sc (i + 2))
  refine ⟨M2, inv_sm I s, fun k => ?_⟩
  unfold f_L_law_c7
  rw [a1_, a2_, gd_r (by omega) (by omega), gd_r (by omega) (by omega)]
  simp (disch := omega) only [o_clamp]
  rw [e1, Option.bind_some, e2, Option.bind_some, if_pos rfl]
theorem cs_8 (I : Inv M) (hl : len ≤ 3072) (hi : i + 5 < len) (sc : Nat → Int32) : ∃ M', Inv M' ∧ ∀ k, f_L_law_c8 sc len k (Int32.ofNat i) M = k (Int32.ofNat i) M' := by
  obtain ⟨N, K, R, W⟩ := I.1
  obtain ⟨r, M2, e1, e2, s⟩ := op_odds R (sc (i + 1))
  refine ⟨M2, inv_sm I s, fun k => ?_⟩
  unfold f_L_law_c8
  rw [a1_, gd_r (by omega) (by omega)]
  simp (disch := omega) only [o_clamp]
  rw [e1, Option.bind_some, e2, Option.bind_some, if_pos (lg_self r)]
theorem cs_9 (I : Inv M) (hl : len ≤ 3072) (hi : i + 5 < len) (sc : Nat → Int32) : ∃ M', Inv M' ∧ ∀ k, f_L_law_c9 sc len k (Int32.ofNat i) M = k (Int32.ofNat i) M' := by
  obtain ⟨N, K, R, W⟩ := I.1
  obtain ⟨r, e1, e2⟩ := op_round R (sc (i + 1))
  refine ⟨M, I, fun k => ?_⟩
  unfold f_L_law_c9
  rw [a1_, gd_r (by omega) (by omega)]
  simp (disch := omega) only [o_clamp]
  rw [e1, Option.bind_some, e2, Option.bind_some, if_pos rfl]
theorem cs_10 (I : Inv M) (hl : len ≤ 3072) (hi : i + 5 < len) (sc : Nat → Int32) : ∃ M', Inv M' ∧ ∀ k, f_L_law_c10 sc len k (Int32.ofNat i) M = k (Int32.ofNat i) M' := by
  obtain ⟨r, e1, e2⟩ := op_may (sc (i + 1)) (sc (i + 2))
  refine ⟨M, I, fun k => ?_⟩
  unfold f_L_law_c10
  rw [a1_, a2_, gd_r (by omega) (by omega), gd_r (by omega) (by omega)]
  simp (disch := omega) only [o_clamp]
  rw [e1, Option.bind_some, e2, Option.bind_some, if_pos rfl]
theorem cs_11 (I : Inv M) (hl : len ≤ 3072) (hi : i + 5 < len) (sc : Nat → Int32) : ∃ M', Inv M' ∧ ∀ k, f_L_law_c11 sc len k (Int32.ofNat i) M = k (Int32.ofNat i) M' := by
  obtain ⟨N, K, R, W⟩ := I.1
  obtain ⟨r, M1, M2, e1, e2, s⟩ := op_middle R (sc (i + 1))
  refine ⟨M2, inv_sm I s, fun k => ?_⟩
  unfold f_L_law_c11
  rw [a1_, gd_r (by omega) (by omega)]
  simp (disch := omega) only [o_clamp]
  rw [e1, Option.bind_some, e2, Option.bind_some, if_pos rfl]
theorem cs_12 (I : Inv M) (hl : len ≤ 3072) (hi : i + 5 < len) (sc : Nat → Int32) : ∃ M', Inv M' ∧ ∀ k, f_L_law_c12 sc len k (Int32.ofNat i) M = k (Int32.ofNat i) M' := by
  obtain ⟨N, K, R, W⟩ := I.1
  obtain ⟨r, M1, M2, e1, e2, s⟩ := op_left R (sc (i + 1))
  refine ⟨M2, inv_sm I s, fun k => ?_⟩
  unfold f_L_law_c12
  rw [a1_, gd_r (by omega) (by omega)]
  simp (disch := omega) only [o_clamp]
  rw [e1, Option.bind_some, e2, Option.bind_some, if_pos rfl]
theorem cs_13 (I : Inv M) (hl : len ≤ 3072) (hi : i + 5 < len) (sc : Nat → Int32) : ∃ M', Inv M' ∧ ∀ k, f_L_law_c13 sc len k (Int32.ofNat i) M = k (Int32.ofNat i) M' := by
  obtain ⟨N, K, R, W⟩ := I.1
  obtain ⟨r, e1, e2⟩ := op_trulyAll R (sc (i + 1))
  refine ⟨M, I, fun k => ?_⟩
  unfold f_L_law_c13
  rw [a1_, gd_r (by omega) (by omega)]
  simp (disch := omega) only [o_clamp]
  rw [e1, Option.bind_some, e2, Option.bind_some, if_pos rfl]
theorem cs_14 (I : Inv M) (hl : len ≤ 3072) (hi : i + 5 < len) (sc : Nat → Int32) : ∃ M', Inv M' ∧ ∀ k, f_L_law_c14 sc len k (Int32.ofNat i) M = k (Int32.ofNat i) M' := by
  by_cases q : sc (i + 2) = 0
  · obtain ⟨r, M1, M2, e1, e2, I2⟩ := op_watch I (sc (i + 1)) 0 (Or.inl rfl)
    refine ⟨M2, I2, fun k => ?_⟩
    unfold f_L_law_c14
    rw [a1_, a2_, gd_r (by omega) (by omega), gd_r (by omega) (by omega)]
    simp (disch := omega) only [o_clamp]
    rw [if_pos q, e1, Option.bind_some, if_pos q, e2, Option.bind_some, if_pos rfl]
  · obtain ⟨r, M1, M2, e1, e2, I2⟩ := op_watch I (sc (i + 1)) 1 (Or.inr rfl)
    refine ⟨M2, I2, fun k => ?_⟩
    unfold f_L_law_c14
    rw [a1_, a2_, gd_r (by omega) (by omega), gd_r (by omega) (by omega)]
    simp (disch := omega) only [o_clamp]
    rw [if_neg q, e1, Option.bind_some, if_neg q, e2, Option.bind_some, if_pos rfl]
theorem cs_15 (I : Inv M) (hl : len ≤ 3072) (hi : i + 5 < len) (sc : Nat → Int32) : ∃ M', Inv M' ∧ ∀ k, f_L_law_c15 sc len k (Int32.ofNat i) M = k (Int32.ofNat i) M' := by
  obtain ⟨N, K, R, W⟩ := I.1
  obtain ⟨r, M1, M2, e1, e2, s⟩ := op_cost R 
  refine ⟨M2, inv_sm I s, fun k => ?_⟩
  unfold f_L_law_c15
  rw [e1, Option.bind_some, e2, Option.bind_some, if_pos rfl]
theorem cs_16 (I : Inv M) (hl : len ≤ 3072) (hi : i + 5 < len) (sc : Nat → Int32) : ∃ M', Inv M' ∧ ∀ k, f_L_law_c16 sc len k (Int32.ofNat i) M = k (Int32.ofNat i) M' := by
  obtain ⟨N, K, R, W⟩ := I.1
  obtain ⟨r, M1, M2, e1, e2, s⟩ := op_ways R (sc (i + 1))
  refine ⟨M2, inv_sm I s, fun k => ?_⟩
  unfold f_L_law_c16
  rw [a1_, gd_r (by omega) (by omega)]
  simp (disch := omega) only [o_clamp]
  rw [e1, Option.bind_some, e2, Option.bind_some, if_pos rfl]
theorem cs_17 (I : Inv M) (hl : len ≤ 3072) (hi : i + 5 < len) (sc : Nat → Int32) : ∃ M', Inv M' ∧ ∀ k, f_L_law_c17 sc len k (Int32.ofNat i) M = k (Int32.ofNat i) M' := by
  obtain ⟨r, M1, M2, e1, e2, I2⟩ := op_up I (sc (i + 1)) (sc (i + 2)) (sc (i + 3))
  refine ⟨M2, I2, fun k => ?_⟩
  unfold f_L_law_c17
  rw [a1_, a2_, a3_, gd_r (by omega) (by omega), gd_r (by omega) (by omega), gd_r (by omega) (by omega)]
  simp (disch := omega) only [o_clamp]
  rw [e1, Option.bind_some, e2, Option.bind_some, if_pos rfl]
theorem cs_18 (I : Inv M) (hl : len ≤ 3072) (hi : i + 5 < len) (sc : Nat → Int32) : ∃ M', Inv M' ∧ ∀ k, f_L_law_c18 sc len k (Int32.ofNat i) M = k (Int32.ofNat i) M' := by
  obtain ⟨r, M1, M2, e1, e2, I2⟩ := op_down I (sc (i + 1))
  refine ⟨M2, I2, fun k => ?_⟩
  unfold f_L_law_c18
  rw [a1_, gd_r (by omega) (by omega)]
  simp (disch := omega) only [o_clamp]
  rw [e1, Option.bind_some, e2, Option.bind_some, if_pos rfl]
theorem cs_19 (I : Inv M) (hl : len ≤ 3072) (hi : i + 5 < len) (sc : Nat → Int32) : ∃ M', Inv M' ∧ ∀ k, f_L_law_c19 sc len k (Int32.ofNat i) M = k (Int32.ofNat i) M' := by
  obtain ⟨N, K, R, W⟩ := I.1
  obtain ⟨r, e1, e2⟩ := op_sum R (sc (i + 1)) (sc (i + 2))
  refine ⟨M, I, fun k => ?_⟩
  unfold f_L_law_c19
  rw [a1_, a2_, gd_r (by omega) (by omega), gd_r (by omega) (by omega)]
  simp (disch := omega) only [o_clamp]
  rw [e1, Option.bind_some, e2, Option.bind_some, if_pos rfl]
theorem cs_20 (I : Inv M) (hl : len ≤ 3072) (hi : i + 5 < len) (sc : Nat → Int32) : ∃ M', Inv M' ∧ ∀ k, f_L_law_c20 sc len k (Int32.ofNat i) M = k (Int32.ofNat i) M' := by
  obtain ⟨N, K, R, W⟩ := I.1
  obtain ⟨r, e1, e2⟩ := op_won R 
  refine ⟨M, I, fun k => ?_⟩
  unfold f_L_law_c20
  rw [e1, Option.bind_some, e2, Option.bind_some, if_pos rfl]
theorem cs_21 (I : Inv M) (hl : len ≤ 3072) (hi : i + 5 < len) (sc : Nat → Int32) : ∃ M', Inv M' ∧ ∀ k, f_L_law_c21 sc len k (Int32.ofNat i) M = k (Int32.ofNat i) M' := by
  obtain ⟨N, K, R, W⟩ := I.1
  obtain ⟨r, e1, e2⟩ := op_helped R 
  refine ⟨M, I, fun k => ?_⟩
  unfold f_L_law_c21
  rw [e1, Option.bind_some, e2, Option.bind_some, if_pos rfl]
theorem cs_22 (I : Inv M) (hl : len ≤ 3072) (hi : i + 5 < len) (sc : Nat → Int32) : ∃ M', Inv M' ∧ ∀ k, f_L_law_c22 sc len k (Int32.ofNat i) M = k (Int32.ofNat i) M' := by
  obtain ⟨N, K, R, W⟩ := I.1
  obtain ⟨r, e1, e2⟩ := op_untrue R (sc (i + 1)) (sc (i + 2))
  refine ⟨M, I, fun k => ?_⟩
  unfold f_L_law_c22
  rw [a1_, a2_, gd_r (by omega) (by omega), gd_r (by omega) (by omega)]
  simp (disch := omega) only [o_clamp]
  rw [e1, Option.bind_some, e2, Option.bind_some, if_pos rfl]
theorem cs_23 (I : Inv M) (hl : len ≤ 3072) (hi : i + 5 < len) (sc : Nat → Int32) : ∃ M', Inv M' ∧ ∀ k, f_L_law_c23 sc len k (Int32.ofNat i) M = k (Int32.ofNat i) M' := by
  obtain ⟨N, K, R, W⟩ := I.1
  obtain ⟨r, e1, e2⟩ := op_turn R 
  refine ⟨M, I, fun k => ?_⟩
  unfold f_L_law_c23
  rw [e1, Option.bind_some, e2, Option.bind_some, if_pos rfl]
theorem cs_24 (I : Inv M) (hl : len ≤ 3072) (hi : i + 5 < len) (sc : Nat → Int32) : ∃ M', Inv M' ∧ ∀ k, f_L_law_c24 sc len k (Int32.ofNat i) M = k (Int32.ofNat i) M' := by
  obtain ⟨N, K, R, W⟩ := I.1
  obtain ⟨r, M1, M2, e1, e2, s⟩ := op_again R (sc (i + 1)) (sc (i + 2))
  refine ⟨M2, inv_sm I s, fun k => ?_⟩
  unfold f_L_law_c24
  rw [a1_, a2_, gd_r (by omega) (by omega), gd_r (by omega) (by omega)]
  simp (disch := omega) only [o_clamp]
  rw [e1, Option.bind_some, e2, Option.bind_some, if_pos rfl]
theorem cs_25 (I : Inv M) (hl : len ≤ 3072) (hi : i + 5 < len) (sc : Nat → Int32) : ∃ M', Inv M' ∧ ∀ k, f_L_law_c25 sc len k (Int32.ofNat i) M = k (Int32.ofNat i) M' := by
  obtain ⟨N, K, R, W⟩ := I.1
  obtain ⟨r, M1, M2, e1, e2, s⟩ := op_measure R (sc (i + 1))
  refine ⟨M2, inv_sm I s, fun k => ?_⟩
  unfold f_L_law_c25
  rw [a1_, gd_r (by omega) (by omega)]
  simp (disch := omega) only [o_clamp]
  rw [e1, Option.bind_some, e2, Option.bind_some, if_pos rfl]
theorem cs_26 (I : Inv M) (hl : len ≤ 3072) (hi : i + 5 < len) (sc : Nat → Int32) : ∃ M', Inv M' ∧ ∀ k, f_L_law_c26 sc len k (Int32.ofNat i) M = k (Int32.ofNat i) M' := by
  obtain ⟨r, M1, M2, e1, e2, I2⟩ := op_odd I (sc (i + 1)) (sc (i + 2)) (sc (i + 3))
  refine ⟨M2, I2, fun k => ?_⟩
  unfold f_L_law_c26
  rw [a1_, a2_, a3_, gd_r (by omega) (by omega), gd_r (by omega) (by omega), gd_r (by omega) (by omega)]
  simp (disch := omega) only [o_clamp]
  rw [e1, Option.bind_some, e2, Option.bind_some, if_pos rfl]
theorem cs_27 (I : Inv M) (hl : len ≤ 3072) (hi : i + 5 < len) (sc : Nat → Int32) : ∃ M', Inv M' ∧ ∀ k, f_L_law_c27 sc len k (Int32.ofNat i) M = k (Int32.ofNat i) M' := by
  obtain ⟨r, M1, M2, e1, e2, I2⟩ := op_land I (sc (i + 1))
  refine ⟨M2, I2, fun k => ?_⟩
  unfold f_L_law_c27
  rw [a1_, gd_r (by omega) (by omega)]
  simp (disch := omega) only [o_clamp]
  rw [e1, Option.bind_some, e2, Option.bind_some, if_pos rfl]
theorem cs_28 (I : Inv M) (hl : len ≤ 3072) (hi : i + 5 < len) (sc : Nat → Int32) : ∃ M', Inv M' ∧ ∀ k, f_L_law_c28 sc len k (Int32.ofNat i) M = k (Int32.ofNat i) M' := by
  obtain ⟨r, M1, M2, e1, e2, I2⟩ := op_fault I (sc (i + 1))
  refine ⟨M2, I2, fun k => ?_⟩
  unfold f_L_law_c28
  rw [a1_, gd_r (by omega) (by omega)]
  simp (disch := omega) only [o_clamp]
  rw [e1, Option.bind_some, e2, Option.bind_some, if_pos rfl]
theorem cs_29 (I : Inv M) (hl : len ≤ 3072) (hi : i + 5 < len) (sc : Nat → Int32) : ∃ M', Inv M' ∧ ∀ k, f_L_law_c29 sc len k (Int32.ofNat i) M = k (Int32.ofNat i) M' := by
  obtain ⟨r, M1, M2, e1, e2, I2⟩ := op_mark I (sc (i + 1))
  refine ⟨M2, I2, fun k => ?_⟩
  unfold f_L_law_c29
  rw [a1_, gd_r (by omega) (by omega)]
  simp (disch := omega) only [o_clamp]
  rw [e1, Option.bind_some, e2, Option.bind_some, if_pos rfl]
theorem cs_30 (I : Inv M) (hl : len ≤ 3072) (hi : i + 5 < len) (sc : Nat → Int32) : ∃ M', Inv M' ∧ ∀ k, f_L_law_c30 sc len k (Int32.ofNat i) M = k (Int32.ofNat i) M' := by
  obtain ⟨r, M1, M2, e1, e2, I2⟩ := op_marked I (sc (i + 1))
  refine ⟨M2, I2, fun k => ?_⟩
  unfold f_L_law_c30
  rw [a1_, gd_r (by omega) (by omega)]
  simp (disch := omega) only [o_clamp]
  rw [e1, Option.bind_some, e2, Option.bind_some, if_pos rfl]
theorem cs_31 (I : Inv M) (hl : len ≤ 3072) (hi : i + 5 < len) (sc : Nat → Int32) : ∃ M', Inv M' ∧ ∀ k, f_L_law_c31 sc len k (Int32.ofNat i) M = k (Int32.ofNat i) M' := by
  obtain ⟨r, M1, M2, e1, e2, I2⟩ := op_said I (sc (i + 1)) (sc (i + 2))
  refine ⟨M2, I2, fun k => ?_⟩
  unfold f_L_law_c31
  rw [a1_, a2_, gd_r (by omega) (by omega), gd_r (by omega) (by omega)]
  simp (disch := omega) only [o_clamp]
  rw [e1, Option.bind_some, e2, Option.bind_some, if_pos rfl]
theorem cs_32 (I : Inv M) (hl : len ≤ 3072) (hi : i + 5 < len) (sc : Nat → Int32) : ∃ M', Inv M' ∧ ∀ k, f_L_law_c32 sc len k (Int32.ofNat i) M = k (Int32.ofNat i) M' := by
  obtain ⟨r, M1, M2, e1, e2, I2⟩ := op_image I 
  refine ⟨M2, I2, fun k => ?_⟩
  unfold f_L_law_c32
  rw [e1, Option.bind_some, e2, Option.bind_some, if_pos rfl]
theorem cs_33 (I : Inv M) (hl : len ≤ 3072) (hi : i + 5 < len) (sc : Nat → Int32) : ∃ M', Inv M' ∧ ∀ k, f_L_law_c33 sc len k (Int32.ofNat i) M = k (Int32.ofNat i) M' := by
  obtain ⟨r, M1, M2, e1, e2, I2⟩ := op_restore I 
  refine ⟨M2, I2, fun k => ?_⟩
  unfold f_L_law_c33
  rw [e1, Option.bind_some, e2, Option.bind_some, if_pos rfl]
theorem cs_34 (I : Inv M) (hl : len ≤ 3072) (hi : i + 5 < len) (sc : Nat → Int32) : ∃ M', Inv M' ∧ ∀ k, f_L_law_c34 sc len k (Int32.ofNat i) M = k (Int32.ofNat i) M' := by
  obtain ⟨N, K, R, W⟩ := I.1
  obtain ⟨r, e1, e2⟩ := op_count R (sc (i + 1))
  refine ⟨M, I, fun k => ?_⟩
  unfold f_L_law_c34
  rw [a1_, gd_r (by omega) (by omega)]
  simp (disch := omega) only [o_clamp]
  rw [e1, Option.bind_some, e2, Option.bind_some, if_pos rfl]
theorem cs_35 (I : Inv M) (hl : len ≤ 3072) (hi : i + 5 < len) (sc : Nat → Int32) : ∃ M', Inv M' ∧ ∀ k, f_L_law_c35 sc len k (Int32.ofNat i) M = k (Int32.ofNat i) M' := by
  obtain ⟨r, M1, M2, e1, e2, I2⟩ := op_keep I (sc (i + 1)) (sc (i + 2)) (sc (i + 3))
  refine ⟨M2, I2, fun k => ?_⟩
  unfold f_L_law_c35
  rw [a1_, a2_, a3_, gd_r (by omega) (by omega), gd_r (by omega) (by omega), gd_r (by omega) (by omega)]
  simp (disch := omega) only [o_clamp]
  rw [e1, Option.bind_some, e2, Option.bind_some, if_pos rfl]
theorem cs_36 (I : Inv M) (hl : len ≤ 3072) (hi : i + 5 < len) (sc : Nat → Int32) : ∃ M', Inv M' ∧ ∀ k, f_L_law_c36 sc len k (Int32.ofNat i) M = k (Int32.ofNat i) M' := by
  obtain ⟨r, M1, M2, e1, e2, I2⟩ := op_row I (sc (i + 1)) (sc (i + 2)) (sc (i + 3))
  refine ⟨M2, I2, fun k => ?_⟩
  unfold f_L_law_c36
  rw [a1_, a2_, a3_, gd_r (by omega) (by omega), gd_r (by omega) (by omega), gd_r (by omega) (by omega)]
  simp (disch := omega) only [o_clamp]
  rw [e1, Option.bind_some, e2, Option.bind_some, if_pos rfl]
theorem cs_37 (I : Inv M) (hl : len ≤ 3072) (hi : i + 5 < len) (sc : Nat → Int32) : ∃ M', Inv M' ∧ ∀ k, f_L_law_c37 sc len k (Int32.ofNat i) M = k (Int32.ofNat i) M' := by
  obtain ⟨r, M1, M2, e1, e2, I2⟩ := op_put I (sc (i + 1)) (sc (i + 2)) (sc (i + 3))
  refine ⟨M2, I2, fun k => ?_⟩
  unfold f_L_law_c37
  rw [a1_, a2_, a3_, gd_r (by omega) (by omega), gd_r (by omega) (by omega), gd_r (by omega) (by omega)]
  simp (disch := omega) only [o_clamp]
  rw [e1, Option.bind_some, e2, Option.bind_some, if_pos rfl]
theorem cs_38 (I : Inv M) (hl : len ≤ 3072) (hi : i + 5 < len) (sc : Nat → Int32) : ∃ M', Inv M' ∧ ∀ k, f_L_law_c38 sc len k (Int32.ofNat i) M = k (Int32.ofNat i) M' := by
  obtain ⟨c, v, M1, M2, e1, e2, e3, e4, I2⟩ := op_element I (sc (i + 1)) (sc (i + 2))
  refine ⟨M2, I2, fun k => ?_⟩
  unfold f_L_law_c38
  rw [a1_, a2_, gd_r (by omega) (by omega), gd_r (by omega) (by omega)]
  simp (disch := omega) only [o_clamp]
  rw [e1, Option.bind_some, e2, Option.bind_some]
  dsimp only
  rw [if_pos e3]
  by_cases q : c = 0
  · rw [if_pos q, e4 q, if_pos (lg_self v)]
  · rw [if_neg q]
theorem cs_39 (I : Inv M) (hl : len ≤ 3072) (hi : i + 5 < len) (sc : Nat → Int32) : ∃ M', Inv M' ∧ ∀ k, f_L_law_c39 sc len k (Int32.ofNat i) M = k (Int32.ofNat i) M' := by
  obtain ⟨r, M1, M2, e1, e2, I2⟩ := op_copy I (sc (i + 1)) (sc (i + 2)) (sc (i + 3)) (sc (i + 4)) (sc (i + 5))
  refine ⟨M2, I2, fun k => ?_⟩
  unfold f_L_law_c39
  rw [a1_, a2_, a3_, a4_, a5_, gd_r (by omega) (by omega), gd_r (by omega) (by omega), gd_r (by omega) (by omega), gd_r (by omega) (by omega), gd_r (by omega) (by omega)]
  simp (disch := omega) only [o_clamp]
  rw [e1, Option.bind_some, e2, Option.bind_some, if_pos rfl]
theorem cs_40 (I : Inv M) (hl : len ≤ 3072) (hi : i + 5 < len) (sc : Nat → Int32) : ∃ M', Inv M' ∧ ∀ k, f_L_law_c40 sc len k (Int32.ofNat i) M = k (Int32.ofNat i) M' := by
  obtain ⟨r, e1, e2⟩ := op_weight I (sc (i + 1))
  refine ⟨M, I, fun k => ?_⟩
  unfold f_L_law_c40
  rw [a1_, gd_r (by omega) (by omega)]
  simp (disch := omega) only [o_clamp]
  rw [e1, Option.bind_some, e2, Option.bind_some, if_pos rfl]
theorem cs_41 (I : Inv M) (hl : len ≤ 3072) (hi : i + 5 < len) (sc : Nat → Int32) : ∃ M', Inv M' ∧ ∀ k, f_L_law_c41 sc len k (Int32.ofNat i) M = k (Int32.ofNat i) M' := by
  obtain ⟨r, e1, e2⟩ := op_toss I (sc (i + 1))
  refine ⟨M, I, fun k => ?_⟩
  unfold f_L_law_c41
  rw [a1_, gd_r (by omega) (by omega)]
  simp (disch := omega) only [o_clamp]
  rw [e1, Option.bind_some, e2, Option.bind_some, if_pos rfl]
end
theorem law_run (sc : Nat → Int32) (len : Nat) (hl : len ≤ 3072) : ∀ k n (i : Nat) (M : Mem), len ≤ i + 6 * k → k < n → i ≤ len + 6 → Inv M → L_L_law_23 sc len n (Int32.ofNat i) M = some 1 := by
  intro k
  induction k with
  | zero =>
    intro n i M h1 hn h2 I
    obtain ⟨m, rfl⟩ : ∃ m, n = m + 1 := ⟨n - 1, by omega⟩
    have z6 : (6 : Int32).toInt = 6 := rfl
    unfold L_L_law_23
    rw [if_pos]
    rw [Int32.lt_iff_toInt_lt, ti_sub (by rw [o_toInt (by omega), z6]; omega) (by rw [o_toInt (by omega), z6]; omega), o_toInt (by omega), o_toInt (by omega), z6]
    omega
  | succ k ih =>
    intro n i M h1 hn h2 I
    obtain ⟨m, rfl⟩ : ∃ m, n = m + 1 := ⟨n - 1, by omega⟩
    have z6 : (6 : Int32).toInt = 6 := rfl
    have lt : (Int32.ofNat len - 6 < Int32.ofNat i) = ((len : Int) - 6 < (i : Int)) := by
      rw [Int32.lt_iff_toInt_lt, ti_sub (by rw [o_toInt (by omega), z6]; omega) (by rw [o_toInt (by omega), z6]; omega), o_toInt (by omega), o_toInt (by omega), z6]
    unfold L_L_law_23
    by_cases q : (len : Int) - 6 < (i : Int)
    · rw [if_pos (by rw [lt]; exact q)]
    · rw [if_neg (by rw [lt]; exact q), gd_r (by omega) (by omega), o_clamp (by omega)]
      have nxt : ∀ M', Inv M' → B_L_law_1621 (L_L_law_23 sc len m) (Int32.ofNat i) M' = some 1 := fun M' I' => by
        unfold B_L_law_1621
        rw [show Int32.ofNat i + 6 = Int32.ofNat (i + 6) from o_add (j := 6)]
        exact ih m (i + 6) M' (by omega) (by omega) (by omega) I'
      have go : ∀ f : (Int32 → Mem → Option Int32) → Option Int32, (∃ M', Inv M' ∧ ∀ k, f k = k (Int32.ofNat i) M') → f (B_L_law_1621 (L_L_law_23 sc len m)) = some 1 := fun f h => by
        obtain ⟨M', I', e⟩ := h
        rw [e]; exact nxt M' I'
      by_cases c0 : (sc i &&& 63) = 0
      · rw [if_pos c0]; exact go (fun k => f_L_law_c0 sc len k (Int32.ofNat i) M) (cs_0 I hl (by omega) sc)
      rw [if_neg c0]
      by_cases c1 : (sc i &&& 63) = 1
      · rw [if_pos c1]; exact go (fun k => f_L_law_c1 sc len k (Int32.ofNat i) M) (cs_1 I hl (by omega) sc)
      rw [if_neg c1]
      by_cases c2 : (sc i &&& 63) = 2
      · rw [if_pos c2]; exact go (fun k => f_L_law_c2 sc len k (Int32.ofNat i) M) (cs_2 I hl (by omega) sc)
      rw [if_neg c2]
      by_cases c3 : (sc i &&& 63) = 3
      · rw [if_pos c3]; exact go (fun k => f_L_law_c3 sc len k (Int32.ofNat i) M) (cs_3 I hl (by omega) sc)
      rw [if_neg c3]
      by_cases c4 : (sc i &&& 63) = 4
      · rw [if_pos c4]; exact go (fun k => f_L_law_c4 sc len k (Int32.ofNat i) M) (cs_4 I hl (by omega) sc)
      rw [if_neg c4]
      by_cases c5 : (sc i &&& 63) = 5
      · rw [if_pos c5]; exact go (fun k => f_L_law_c5 sc len k (Int32.ofNat i) M) (cs_5 I hl (by omega) sc)
      rw [if_neg c5]
      by_cases c6 : (sc i &&& 63) = 6
      · rw [if_pos c6]; exact go (fun k => f_L_law_c6 sc len k (Int32.ofNat i) M) (cs_6 I hl (by omega) sc)
      rw [if_neg c6]
      by_cases c7 : (sc i &&& 63) = 7
      · rw [if_pos c7]; exact go (fun k => f_L_law_c7 sc len k (Int32.ofNat i) M) (cs_7 I hl (by omega) sc)
      rw [if_neg c7]
      by_cases c8 : (sc i &&& 63) = 8
      · rw [if_pos c8]; exact go (fun k => f_L_law_c8 sc len k (Int32.ofNat i) M) (cs_8 I hl (by omega) sc)
      rw [if_neg c8]
      by_cases c9 : (sc i &&& 63) = 9
      · rw [if_pos c9]; exact go (fun k => f_L_law_c9 sc len k (Int32.ofNat i) M) (cs_9 I hl (by omega) sc)
      rw [if_neg c9]
      by_cases c10 : (sc i &&& 63) = 10
      · rw [if_pos c10]; exact go (fun k => f_L_law_c10 sc len k (Int32.ofNat i) M) (cs_10 I hl (by omega) sc)
      rw [if_neg c10]
      by_cases c11 : (sc i &&& 63) = 11
      · rw [if_pos c11]; exact go (fun k => f_L_law_c11 sc len k (Int32.ofNat i) M) (cs_11 I hl (by omega) sc)
      rw [if_neg c11]
      by_cases c12 : (sc i &&& 63) = 12
      · rw [if_pos c12]; exact go (fun k => f_L_law_c12 sc len k (Int32.ofNat i) M) (cs_12 I hl (by omega) sc)
      rw [if_neg c12]
      by_cases c13 : (sc i &&& 63) = 13
      · rw [if_pos c13]; exact go (fun k => f_L_law_c13 sc len k (Int32.ofNat i) M) (cs_13 I hl (by omega) sc)
      rw [if_neg c13]
      by_cases c14 : (sc i &&& 63) = 14
      · rw [if_pos c14]; exact go (fun k => f_L_law_c14 sc len k (Int32.ofNat i) M) (cs_14 I hl (by omega) sc)
      rw [if_neg c14]
      by_cases c15 : (sc i &&& 63) = 15
      · rw [if_pos c15]; exact go (fun k => f_L_law_c15 sc len k (Int32.ofNat i) M) (cs_15 I hl (by omega) sc)
      rw [if_neg c15]
      by_cases c16 : (sc i &&& 63) = 16
      · rw [if_pos c16]; exact go (fun k => f_L_law_c16 sc len k (Int32.ofNat i) M) (cs_16 I hl (by omega) sc)
      rw [if_neg c16]
      by_cases c17 : (sc i &&& 63) = 17
      · rw [if_pos c17]; exact go (fun k => f_L_law_c17 sc len k (Int32.ofNat i) M) (cs_17 I hl (by omega) sc)
      rw [if_neg c17]
      by_cases c18 : (sc i &&& 63) = 18
      · rw [if_pos c18]; exact go (fun k => f_L_law_c18 sc len k (Int32.ofNat i) M) (cs_18 I hl (by omega) sc)
      rw [if_neg c18]
      by_cases c19 : (sc i &&& 63) = 19
      · rw [if_pos c19]; exact go (fun k => f_L_law_c19 sc len k (Int32.ofNat i) M) (cs_19 I hl (by omega) sc)
      rw [if_neg c19]
      by_cases c20 : (sc i &&& 63) = 20
      · rw [if_pos c20]; exact go (fun k => f_L_law_c20 sc len k (Int32.ofNat i) M) (cs_20 I hl (by omega) sc)
      rw [if_neg c20]
      by_cases c21 : (sc i &&& 63) = 21
      · rw [if_pos c21]; exact go (fun k => f_L_law_c21 sc len k (Int32.ofNat i) M) (cs_21 I hl (by omega) sc)
      rw [if_neg c21]
      by_cases c22 : (sc i &&& 63) = 22
      · rw [if_pos c22]; exact go (fun k => f_L_law_c22 sc len k (Int32.ofNat i) M) (cs_22 I hl (by omega) sc)
      rw [if_neg c22]
      by_cases c23 : (sc i &&& 63) = 23
      · rw [if_pos c23]; exact go (fun k => f_L_law_c23 sc len k (Int32.ofNat i) M) (cs_23 I hl (by omega) sc)
      rw [if_neg c23]
      by_cases c24 : (sc i &&& 63) = 24
      · rw [if_pos c24]; exact go (fun k => f_L_law_c24 sc len k (Int32.ofNat i) M) (cs_24 I hl (by omega) sc)
      rw [if_neg c24]
      by_cases c25 : (sc i &&& 63) = 25
      · rw [if_pos c25]; exact go (fun k => f_L_law_c25 sc len k (Int32.ofNat i) M) (cs_25 I hl (by omega) sc)
      rw [if_neg c25]
      by_cases c26 : (sc i &&& 63) = 26
      · rw [if_pos c26]; exact go (fun k => f_L_law_c26 sc len k (Int32.ofNat i) M) (cs_26 I hl (by omega) sc)
      rw [if_neg c26]
      by_cases c27 : (sc i &&& 63) = 27
      · rw [if_pos c27]; exact go (fun k => f_L_law_c27 sc len k (Int32.ofNat i) M) (cs_27 I hl (by omega) sc)
      rw [if_neg c27]
      by_cases c28 : (sc i &&& 63) = 28
      · rw [if_pos c28]; exact go (fun k => f_L_law_c28 sc len k (Int32.ofNat i) M) (cs_28 I hl (by omega) sc)
      rw [if_neg c28]
      by_cases c29 : (sc i &&& 63) = 29
      · rw [if_pos c29]; exact go (fun k => f_L_law_c29 sc len k (Int32.ofNat i) M) (cs_29 I hl (by omega) sc)
      rw [if_neg c29]
      by_cases c30 : (sc i &&& 63) = 30
      · rw [if_pos c30]; exact go (fun k => f_L_law_c30 sc len k (Int32.ofNat i) M) (cs_30 I hl (by omega) sc)
      rw [if_neg c30]
      by_cases c31 : (sc i &&& 63) = 31
      · rw [if_pos c31]; exact go (fun k => f_L_law_c31 sc len k (Int32.ofNat i) M) (cs_31 I hl (by omega) sc)
      rw [if_neg c31]
      by_cases c32 : (sc i &&& 63) = 32
      · rw [if_pos c32]; exact go (fun k => f_L_law_c32 sc len k (Int32.ofNat i) M) (cs_32 I hl (by omega) sc)
      rw [if_neg c32]
      by_cases c33 : (sc i &&& 63) = 33
      · rw [if_pos c33]; exact go (fun k => f_L_law_c33 sc len k (Int32.ofNat i) M) (cs_33 I hl (by omega) sc)
      rw [if_neg c33]
      by_cases c34 : (sc i &&& 63) = 34
      · rw [if_pos c34]; exact go (fun k => f_L_law_c34 sc len k (Int32.ofNat i) M) (cs_34 I hl (by omega) sc)
      rw [if_neg c34]
      by_cases c35 : (sc i &&& 63) = 35
      · rw [if_pos c35]; exact go (fun k => f_L_law_c35 sc len k (Int32.ofNat i) M) (cs_35 I hl (by omega) sc)
      rw [if_neg c35]
      by_cases c36 : (sc i &&& 63) = 36
      · rw [if_pos c36]; exact go (fun k => f_L_law_c36 sc len k (Int32.ofNat i) M) (cs_36 I hl (by omega) sc)
      rw [if_neg c36]
      by_cases c37 : (sc i &&& 63) = 37
      · rw [if_pos c37]; exact go (fun k => f_L_law_c37 sc len k (Int32.ofNat i) M) (cs_37 I hl (by omega) sc)
      rw [if_neg c37]
      by_cases c38 : (sc i &&& 63) = 38
      · rw [if_pos c38]; exact go (fun k => f_L_law_c38 sc len k (Int32.ofNat i) M) (cs_38 I hl (by omega) sc)
      rw [if_neg c38]
      by_cases c39 : (sc i &&& 63) = 39
      · rw [if_pos c39]; exact go (fun k => f_L_law_c39 sc len k (Int32.ofNat i) M) (cs_39 I hl (by omega) sc)
      rw [if_neg c39]
      by_cases c40 : (sc i &&& 63) = 40
      · rw [if_pos c40]; exact go (fun k => f_L_law_c40 sc len k (Int32.ofNat i) M) (cs_40 I hl (by omega) sc)
      rw [if_neg c40]
      by_cases c41 : (sc i &&& 63) = 41
      · rw [if_pos c41]; exact go (fun k => f_L_law_c41 sc len k (Int32.ofNat i) M) (cs_41 I hl (by omega) sc)
      rw [if_neg c41]
      exact nxt M I
